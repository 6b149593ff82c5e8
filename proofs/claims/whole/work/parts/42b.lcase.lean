/-! ===== the law's cases that read ===== -/
set_option maxHeartbeats 4000000 in
set_option maxRecDepth 100000 in
theorem lc_things (l : Launch) {p : Program} {e : Env} {s : State} {m : MethodId} {below : List Frame} {meth : Method} {c : Code} {b N : Nat} {xs : Nat → Int32} {D : va_G} {cI cZ cJ : ClassId} {q r : Nat → Nat} {o i : Nat} {H : Heap} {locs : List Loc} {ls : Array Slot} {cells slots : Nat} {Q : State → Prop} (C : LCtx l p s m c b N xs D cI cZ cJ) (h : LStt s D cI cZ cJ q r o b i H locs ls) (hi : i + 2 < N) (hcl : cells + 9 ≤ 621274) (hsl : slots + 58 ≤ 7232283) (kk : ∀ (H : Heap) (locs : List Loc) (ls : Array Slot), LStt s D cI cZ cJ q r o b i H locs ls → W p l e room_1 s m #[Value.ref b] below meth c H locs (cells + 9) (slots + 58) Q (F0 m 1543 ls [])) : W p l e room_1 s m #[Value.ref b] below meth c H locs cells slots Q (F0 m 492 ls []) := by
  obtain ⟨hx, hb, hml, hown, hts, hX, hbl, hN, hl0, hK, hE0⟩ := C
  obtain ⟨th, tc, nc, ac, ch, U, Z, V, Y, B, L, F, f, hS, hP, hD, htc, hnc, hac, hu, hz, hB, hB0, hl⟩ := h
  have hK2 : va_K D vwCl (tyA cI cZ) s := hK.sub [0, 1] rfl
  have hA : ∀ q : Nat, s.heap.size ≤ q → lA s q := fun _ h => h
  have hbA : ¬ lA s b := Nat.not_le.mpr hbl
  have hpw := pw_in htc
  refine lv_aload_n hx hb dL_law_492 rfl (lv_at hl 3 rfl) ?_
  refine pcV_i (As := []) (rest := []) ⟨hx, hb, hml, hown, hts⟩ (g_X_things l (P_l (P_l hP)) htc hnc hac ) (cwV 0 hts gL_law_X0_things rfl rfl rfl hdX0_things ⟨Nat.le_of_ble_eq_true rfl, Nat.le_of_ble_eq_true rfl⟩) (va_recv hK hP (ci := 0) (q0 := 0) rfl rfl) hK2 rfl hl.1 (Nat.le_of_ble_eq_true rfl) rfl dL_law_493 ⟨by show _ ≤ 621274; omega, by show _ ≤ 7232283; omega⟩ ?_
  refine lv_aload_n hx hb dL_law_496 rfl (lv_at hl 2 rfl) ?_
  refine wcV_i (As := []) (rest := [.int (nI tc)]) ⟨hx, hb, hml, hown, hts⟩ (w_M_things l (P_r hP) htc hnc hac (D_r hD)  ) (cwV 0 hts gL_law_X1_things rfl rfl rfl hdX1_things ⟨Nat.le_of_ble_eq_true rfl, Nat.le_of_ble_eq_true rfl⟩) (va_recv hK hP (ci := 1) (q0 := 8) rfl rfl) hK2 hS (fr_r hD hS hA) rfl hl.1 (Nat.le_of_ble_eq_true rfl) rfl dL_law_497 ⟨by show _ ≤ 621274; omega, by show _ ≤ 7232283; omega⟩ (fun H1 locs hP1 hz1 hk1 hS => ?_)
  have hP : va_P D vwCl ((wX cI cZ q tc nc ac ch U Z B L F ++ [(o, .inl (cJ, 1, .inr (.inl f)))]) ++ wM cI cZ r 0 tc nc ac ch V Y B L F) H1 := up_r hP hD hk1 hP1
  have hD : va_D (lA s) ((wX cI cZ q tc nc ac ch U Z B L F ++ [(o, .inl (cJ, 1, .inr (.inl f)))]) ++ wM cI cZ r 0 tc nc ac ch V Y B L F) := va_D_re hD rfl
  clear hP1 hk1 hz1
  generalize H1 = H at hP hS ⊢
  refine lv_ieq (tgt := 1543) hx hb rfl dL_law_500 (by decide) ?_
  refine W.widen (k := cells + 9) (n := slots + 58) (by omega) (by omega) ?_
  exact kk _ _ _ ⟨0, tc, nc, ac, ch, U, Z, V, Y, B, L, F, f, hS, hP, hD, htc, hnc, hac, hu, hz, hB, hB0, lv_sub hl [0, 1, 2, 3, 4] rfl⟩
set_option maxHeartbeats 4000000 in
set_option maxRecDepth 100000 in
theorem lc_nightsWith (l : Launch) {p : Program} {e : Env} {s : State} {m : MethodId} {below : List Frame} {meth : Method} {c : Code} {b N : Nat} {xs : Nat → Int32} {D : va_G} {cI cZ cJ : ClassId} {q r : Nat → Nat} {o i : Nat} {H : Heap} {locs : List Loc} {ls : Array Slot} {cells slots : Nat} {Q : State → Prop} (C : LCtx l p s m c b N xs D cI cZ cJ) (h : LStt s D cI cZ cJ q r o b i H locs ls) (hi : i + 2 < N) (hcl : cells + 9 ≤ 621274) (hsl : slots + 58 ≤ 7232283) (kk : ∀ (H : Heap) (locs : List Loc) (ls : Array Slot), LStt s D cI cZ cJ q r o b i H locs ls → W p l e room_1 s m #[Value.ref b] below meth c H locs (cells + 9) (slots + 58) Q (F0 m 1543 ls [])) : W p l e room_1 s m #[Value.ref b] below meth c H locs cells slots Q (F0 m 505 ls []) := by
  obtain ⟨hx, hb, hml, hown, hts, hX, hbl, hN, hl0, hK, hE0⟩ := C
  obtain ⟨th, tc, nc, ac, ch, U, Z, V, Y, B, L, F, f, hS, hP, hD, htc, hnc, hac, hu, hz, hB, hB0, hl⟩ := h
  have hK2 : va_K D vwCl (tyA cI cZ) s := hK.sub [0, 1] rfl
  have hA : ∀ q : Nat, s.heap.size ≤ q → lA s q := fun _ h => h
  have hbA : ¬ lA s b := Nat.not_le.mpr hbl
  have hpw := pw_in htc
  rcases ar_th (xs (i + 1)) tc with hv | ⟨t, ht, ev⟩
  · skip
    refine lv_aload_n hx hb dL_law_505 rfl (lv_at hl 3 rfl) ?_
    refine lv_aload_n hx hb dL_law_506 rfl (lv_at hl 4 rfl) ?_
    refine lv_iload hx hb dL_law_507 (lv_at hl 0 rfl) ?_
    refine lv_iconst (v := 1) hx hb dL_law_509 (by decide) ?_
    refine lv_iadd hx hb dL_law_510 ?_
    refine lv_cst (y := nI (i + 1)) (nI_add i 1) ?_
    refine s_ld hx hb hX hbl hbA hS (j := i + 1) (by omega) hN dL_law_511 ?_
    refine lv_aload_n hx hb dL_law_512 rfl (lv_at hl 1 rfl) ?_
    refine sc_b (k := 1) (As := [.ref (q 0), .int (xs (i + 1)), .ref o]) (rest := []) ⟨hx, hb, hml, hown, hts⟩ (wx_L_nightsWith l hl0 (P_l hP) htc hnc hac (v := xs (i + 1)) hv) (vx_cwSW 3 hts gL_law_L_nightsWith rfl rfl rfl hdL_nightsWith ⟨Nat.le_of_ble_eq_true rfl, Nat.le_of_ble_eq_true rfl⟩) hK (xE_law hE0 hS) hS rfl hl.1 (Nat.le_of_ble_eq_true rfl) rfl dL_law_513 ⟨by show _ ≤ 621274; omega, by show _ ≤ 7232283; omega⟩ (fun H1 locs hz1 hk1 hS => ?_)
    have hP : va_P D vwCl ((wX cI cZ q tc nc ac ch U Z B L F ++ [(o, .inl (cJ, 1, .inr (.inl f)))]) ++ wM cI cZ r th tc nc ac ch V Y B L F) H1 := grow_P hP hk1
    clear hk1 hz1
    generalize H1 = H at hP hS ⊢
    refine lv_istore (lv' := [(5, .int 1), (4, .int (nI i)), (3, .ref o), (2, .ref (r 0)), (1, .ref (q 0)), (0, .ref b)]) hx hb dL_law_516 hl (by decide) rfl (fun ls hl => ?_)
    refine lv_aload_n hx hb dL_law_518 rfl (lv_at hl 3 rfl) ?_
    refine lv_aload_n hx hb dL_law_519 rfl (lv_at hl 5 rfl) ?_
    refine lv_iload hx hb dL_law_520 (lv_at hl 1 rfl) ?_
    refine lv_iconst (v := 1) hx hb dL_law_522 (by decide) ?_
    refine lv_iadd hx hb dL_law_523 ?_
    refine lv_cst (y := nI (i + 1)) (nI_add i 1) ?_
    refine s_ld hx hb hX hbl hbA hS (j := i + 1) (by omega) hN dL_law_524 ?_
    refine wcV_i (As := [.int (xs (i + 1))]) (rest := []) ⟨hx, hb, hml, hown, hts⟩ (wb_M_nightsWith l (P_r hP) htc hnc hac (D_r hD) (v := xs (i + 1)) hv) (cwV 1 hts gL_law_X1_nightsWith rfl rfl rfl hdX1_nightsWith ⟨Nat.le_of_ble_eq_true rfl, Nat.le_of_ble_eq_true rfl⟩) (va_recv hK hP (ci := 1) (q0 := 8) rfl rfl) hK2 hS (fr_r hD hS hA) rfl hl.1 (Nat.le_of_ble_eq_true rfl) rfl dL_law_525 ⟨by show _ ≤ 621274; omega, by show _ ≤ 7232283; omega⟩ (fun H1 locs hP1 hz1 hk1 hS => ?_)
    have hP : va_P D vwCl ((wX cI cZ q tc nc ac ch U Z B L F ++ [(o, .inl (cJ, 1, .inr (.inl f)))]) ++ wM cI cZ r 1 tc nc ac ch V Y B L F) H1 := up_r hP hD hk1 hP1
    have hD : va_D (lA s) ((wX cI cZ q tc nc ac ch U Z B L F ++ [(o, .inl (cJ, 1, .inr (.inl f)))]) ++ wM cI cZ r 1 tc nc ac ch V Y B L F) := va_D_re hD rfl
    clear hP1 hk1 hz1
    generalize H1 = H at hP hS ⊢
    refine lv_istore (lv' := [(6, .int 0), (5, .int 1), (4, .int (nI i)), (3, .ref o), (2, .ref (r 0)), (1, .ref (q 0)), (0, .ref b)]) hx hb dL_law_528 hl (by decide) rfl (fun ls hl => ?_)
    refine lv_aload_n hx hb dL_law_530 rfl (lv_at hl 4 rfl) ?_
    refine pcV_i (As := []) (rest := []) ⟨hx, hb, hml, hown, hts⟩ (g_M_thrown l (P_r hP) htc hnc hac) (cwV 0 hts gL_law_X1_thrown rfl rfl rfl hdX1_thrown ⟨Nat.le_of_ble_eq_true rfl, Nat.le_of_ble_eq_true rfl⟩) (va_recv hK hP (ci := 1) (q0 := 8) rfl rfl) hK2 rfl hl.1 (Nat.le_of_ble_eq_true rfl) rfl dL_law_531 ⟨by show _ ≤ 621274; omega, by show _ ≤ 7232283; omega⟩ ?_
    refine lv_iload hx hb dL_law_534 (lv_at hl 1 rfl) ?_
    refine lv_ieq (tgt := 541) hx hb rfl dL_law_536 (by decide) ?_
    refine lv_iload hx hb dL_law_541 (lv_at hl 1 rfl) ?_
    refine lv_if_ne (tgt := 558) hx hb dL_law_543 (by decide) (fun _ => ?_) (fun h0 => absurd h0 (by decide))
    refine lv_goto (tgt := 1543) hx hb dL_law_558 (by decide) ?_
    refine W.widen (k := cells + 9) (n := slots + 58) (by omega) (by omega) ?_
    exact kk _ _ _ ⟨1, tc, nc, ac, ch, U, Z, V, Y, B, L, F, f, hS, hP, hD, htc, hnc, hac, hu, hz, hB, hB0, lv_sub hl [2, 3, 4, 5, 6] rfl⟩
  · skip
    refine lv_aload_n hx hb dL_law_505 rfl (lv_at hl 3 rfl) ?_
    refine lv_aload_n hx hb dL_law_506 rfl (lv_at hl 4 rfl) ?_
    refine lv_iload hx hb dL_law_507 (lv_at hl 0 rfl) ?_
    refine lv_iconst (v := 1) hx hb dL_law_509 (by decide) ?_
    refine lv_iadd hx hb dL_law_510 ?_
    refine lv_cst (y := nI (i + 1)) (nI_add i 1) ?_
    refine s_ld hx hb hX hbl hbA hS (j := i + 1) (by omega) hN dL_law_511 ?_
    refine lv_cst (y := nI t) ev ?_
    refine lv_aload_n hx hb dL_law_512 rfl (lv_at hl 1 rfl) ?_
    refine sc_g (As := [.ref (q 0), .int (nI t), .ref o]) (rest := []) ⟨hx, hb, hml, hown, hts⟩ (w_L_nightsWith l (P_l hP) htc hnc hac (D_l hD) (t := t) ht) (vx_cwSW 3 hts gL_law_L_nightsWith rfl rfl rfl hdL_nightsWith ⟨Nat.le_of_ble_eq_true rfl, Nat.le_of_ble_eq_true rfl⟩) hK hS (fr_l hD hS hA) rfl hl.1 (Nat.le_of_ble_eq_true rfl) rfl dL_law_513 ⟨by show _ ≤ 621274; omega, by show _ ≤ 7232283; omega⟩ (fun H1 locs hP1 hz1 hk1 hS => ?_)
    have hP : va_P D vwCl ((wX cI cZ q tc nc ac ch U Z B L F ++ [(o, .inl (cJ, 1, .inr (.inl (vp_updL f 0 (nI (ct (fun j => ho (U j) (nI t)) nc)).toInt64))))]) ++ wM cI cZ r th tc nc ac ch V Y B L F) H1 := up_l hP hD hk1 hP1
    have hD : va_D (lA s) ((wX cI cZ q tc nc ac ch U Z B L F ++ [(o, .inl (cJ, 1, .inr (.inl (vp_updL f 0 (nI (ct (fun j => ho (U j) (nI t)) nc)).toInt64))))]) ++ wM cI cZ r th tc nc ac ch V Y B L F) := va_D_re hD rfl
    clear hP1 hk1 hz1
    generalize H1 = H at hP hS ⊢
    refine lv_istore (lv' := [(5, .int 0), (4, .int (nI i)), (3, .ref o), (2, .ref (r 0)), (1, .ref (q 0)), (0, .ref b)]) hx hb dL_law_516 hl (by decide) rfl (fun ls hl => ?_)
    refine lv_aload_n hx hb dL_law_518 rfl (lv_at hl 3 rfl) ?_
    refine lv_aload_n hx hb dL_law_519 rfl (lv_at hl 5 rfl) ?_
    refine lv_iload hx hb dL_law_520 (lv_at hl 1 rfl) ?_
    refine lv_iconst (v := 1) hx hb dL_law_522 (by decide) ?_
    refine lv_iadd hx hb dL_law_523 ?_
    refine lv_cst (y := nI (i + 1)) (nI_add i 1) ?_
    refine s_ld hx hb hX hbl hbA hS (j := i + 1) (by omega) hN dL_law_524 ?_
    refine lv_cst (y := nI t) ev ?_
    refine wcV_i (As := [.int (nI t)]) (rest := []) ⟨hx, hb, hml, hown, hts⟩ (w_M_nightsWith l (P_r hP) htc hnc hac (D_r hD) (t := t) ht) (cwV 1 hts gL_law_X1_nightsWith rfl rfl rfl hdX1_nightsWith ⟨Nat.le_of_ble_eq_true rfl, Nat.le_of_ble_eq_true rfl⟩) (va_recv hK hP (ci := 1) (q0 := 8) rfl rfl) hK2 hS (fr_r hD hS hA) rfl hl.1 (Nat.le_of_ble_eq_true rfl) rfl dL_law_525 ⟨by show _ ≤ 621274; omega, by show _ ≤ 7232283; omega⟩ (fun H1 locs hP1 hz1 hk1 hS => ?_)
    have hP : va_P D vwCl ((wX cI cZ q tc nc ac ch U Z B L F ++ [(o, .inl (cJ, 1, .inr (.inl (vp_updL f 0 (nI (ct (fun j => ho (U j) (nI t)) nc)).toInt64))))]) ++ wM cI cZ r 0 tc nc ac ch V Y B L F) H1 := up_r hP hD hk1 hP1
    have hD : va_D (lA s) ((wX cI cZ q tc nc ac ch U Z B L F ++ [(o, .inl (cJ, 1, .inr (.inl (vp_updL f 0 (nI (ct (fun j => ho (U j) (nI t)) nc)).toInt64))))]) ++ wM cI cZ r 0 tc nc ac ch V Y B L F) := va_D_re hD rfl
    clear hP1 hk1 hz1
    generalize H1 = H at hP hS ⊢
    refine lv_cst (y := nI (ct (fun j => ho (U j) (nI t)) nc)) (congrArg nI (nw_eq hu hz (by omega : t < 32))) ?_
    refine lv_istore (lv' := [(6, .int (nI (ct (fun j => ho (U j) (nI t)) nc))), (5, .int 0), (4, .int (nI i)), (3, .ref o), (2, .ref (r 0)), (1, .ref (q 0)), (0, .ref b)]) hx hb dL_law_528 hl (by decide) rfl (fun ls hl => ?_)
    refine lv_aload_n hx hb dL_law_530 rfl (lv_at hl 4 rfl) ?_
    refine pcV_i (As := []) (rest := []) ⟨hx, hb, hml, hown, hts⟩ (g_M_thrown l (P_r hP) htc hnc hac) (cwV 0 hts gL_law_X1_thrown rfl rfl rfl hdX1_thrown ⟨Nat.le_of_ble_eq_true rfl, Nat.le_of_ble_eq_true rfl⟩) (va_recv hK hP (ci := 1) (q0 := 8) rfl rfl) hK2 rfl hl.1 (Nat.le_of_ble_eq_true rfl) rfl dL_law_531 ⟨by show _ ≤ 621274; omega, by show _ ≤ 7232283; omega⟩ ?_
    refine lv_iload hx hb dL_law_534 (lv_at hl 1 rfl) ?_
    refine lv_ieq (tgt := 541) hx hb rfl dL_law_536 (by decide) ?_
    refine lv_iload hx hb dL_law_541 (lv_at hl 1 rfl) ?_
    refine lv_if_ne (tgt := 558) hx hb dL_law_543 (by decide) (fun h0 => absurd rfl h0) (fun _ => ?_)
    refine lv_aload_n hx hb dL_law_546 rfl (lv_at hl 3 rfl) ?_
    refine lv_iconst (v := 0) hx hb dL_law_547 (by decide) ?_
    refine ll_ld hx hb hK hP 7 2 rfl rfl dL_law_548 ?_
    refine lv_iload hx hb dL_law_549 (lv_at hl 0 rfl) ?_
    refine lv_i2l (v := (nI (ct (fun j => ho (U j) (nI t)) nc)).toInt64) hx hb dL_law_551 rfl ?_
    refine lv_leq (tgt := 558) hx hb rfl dL_law_552 dL_law_553 (by decide) ?_
    refine lv_goto (tgt := 1543) hx hb dL_law_558 (by decide) ?_
    refine W.widen (k := cells + 9) (n := slots + 58) (by omega) (by omega) ?_
    exact kk _ _ _ ⟨0, tc, nc, ac, ch, U, Z, V, Y, B, L, F, (vp_updL f 0 (nI (ct (fun j => ho (U j) (nI t)) nc)).toInt64), hS, hP, hD, htc, hnc, hac, hu, hz, hB, hB0, lv_sub hl [2, 3, 4, 5, 6] rfl⟩
set_option maxHeartbeats 4000000 in
set_option maxRecDepth 100000 in
theorem lc_smudgesWith (l : Launch) {p : Program} {e : Env} {s : State} {m : MethodId} {below : List Frame} {meth : Method} {c : Code} {b N : Nat} {xs : Nat → Int32} {D : va_G} {cI cZ cJ : ClassId} {q r : Nat → Nat} {o i : Nat} {H : Heap} {locs : List Loc} {ls : Array Slot} {cells slots : Nat} {Q : State → Prop} (C : LCtx l p s m c b N xs D cI cZ cJ) (h : LStt s D cI cZ cJ q r o b i H locs ls) (hi : i + 2 < N) (hcl : cells + 9 ≤ 621274) (hsl : slots + 58 ≤ 7232283) (kk : ∀ (H : Heap) (locs : List Loc) (ls : Array Slot), LStt s D cI cZ cJ q r o b i H locs ls → W p l e room_1 s m #[Value.ref b] below meth c H locs (cells + 9) (slots + 58) Q (F0 m 1543 ls [])) : W p l e room_1 s m #[Value.ref b] below meth c H locs cells slots Q (F0 m 561 ls []) := by
  obtain ⟨hx, hb, hml, hown, hts, hX, hbl, hN, hl0, hK, hE0⟩ := C
  obtain ⟨th, tc, nc, ac, ch, U, Z, V, Y, B, L, F, f, hS, hP, hD, htc, hnc, hac, hu, hz, hB, hB0, hl⟩ := h
  have hK2 : va_K D vwCl (tyA cI cZ) s := hK.sub [0, 1] rfl
  have hA : ∀ q : Nat, s.heap.size ≤ q → lA s q := fun _ h => h
  have hbA : ¬ lA s b := Nat.not_le.mpr hbl
  have hpw := pw_in htc
  rcases ar_th (xs (i + 1)) tc with hv | ⟨t, ht, ev⟩
  · skip
    refine lv_aload_n hx hb dL_law_561 rfl (lv_at hl 3 rfl) ?_
    refine lv_aload_n hx hb dL_law_562 rfl (lv_at hl 4 rfl) ?_
    refine lv_iload hx hb dL_law_563 (lv_at hl 0 rfl) ?_
    refine lv_iconst (v := 1) hx hb dL_law_565 (by decide) ?_
    refine lv_iadd hx hb dL_law_566 ?_
    refine lv_cst (y := nI (i + 1)) (nI_add i 1) ?_
    refine s_ld hx hb hX hbl hbA hS (j := i + 1) (by omega) hN dL_law_567 ?_
    refine lv_aload_n hx hb dL_law_568 rfl (lv_at hl 1 rfl) ?_
    refine sc_b (k := 1) (As := [.ref (q 0), .int (xs (i + 1)), .ref o]) (rest := []) ⟨hx, hb, hml, hown, hts⟩ (wx_L_smudgesWith l hl0 (P_l hP) htc hnc hac (v := xs (i + 1)) hv) (vx_cwSW 3 hts gL_law_L_smudgesWith rfl rfl rfl hdL_smudgesWith ⟨Nat.le_of_ble_eq_true rfl, Nat.le_of_ble_eq_true rfl⟩) hK (xE_law hE0 hS) hS rfl hl.1 (Nat.le_of_ble_eq_true rfl) rfl dL_law_569 ⟨by show _ ≤ 621274; omega, by show _ ≤ 7232283; omega⟩ (fun H1 locs hz1 hk1 hS => ?_)
    have hP : va_P D vwCl ((wX cI cZ q tc nc ac ch U Z B L F ++ [(o, .inl (cJ, 1, .inr (.inl f)))]) ++ wM cI cZ r th tc nc ac ch V Y B L F) H1 := grow_P hP hk1
    clear hk1 hz1
    generalize H1 = H at hP hS ⊢
    refine lv_istore (lv' := [(5, .int 1), (4, .int (nI i)), (3, .ref o), (2, .ref (r 0)), (1, .ref (q 0)), (0, .ref b)]) hx hb dL_law_572 hl (by decide) rfl (fun ls hl => ?_)
    refine lv_aload_n hx hb dL_law_574 rfl (lv_at hl 3 rfl) ?_
    refine lv_aload_n hx hb dL_law_575 rfl (lv_at hl 5 rfl) ?_
    refine lv_iload hx hb dL_law_576 (lv_at hl 1 rfl) ?_
    refine lv_iconst (v := 1) hx hb dL_law_578 (by decide) ?_
    refine lv_iadd hx hb dL_law_579 ?_
    refine lv_cst (y := nI (i + 1)) (nI_add i 1) ?_
    refine s_ld hx hb hX hbl hbA hS (j := i + 1) (by omega) hN dL_law_580 ?_
    refine wcV_i (As := [.int (xs (i + 1))]) (rest := []) ⟨hx, hb, hml, hown, hts⟩ (wb_M_smudgesWith l (P_r hP) htc hnc hac (D_r hD) (v := xs (i + 1)) hv) (cwV 1 hts gL_law_X1_smudgesWith rfl rfl rfl hdX1_smudgesWith ⟨Nat.le_of_ble_eq_true rfl, Nat.le_of_ble_eq_true rfl⟩) (va_recv hK hP (ci := 1) (q0 := 8) rfl rfl) hK2 hS (fr_r hD hS hA) rfl hl.1 (Nat.le_of_ble_eq_true rfl) rfl dL_law_581 ⟨by show _ ≤ 621274; omega, by show _ ≤ 7232283; omega⟩ (fun H1 locs hP1 hz1 hk1 hS => ?_)
    have hP : va_P D vwCl ((wX cI cZ q tc nc ac ch U Z B L F ++ [(o, .inl (cJ, 1, .inr (.inl f)))]) ++ wM cI cZ r 1 tc nc ac ch V Y B L F) H1 := up_r hP hD hk1 hP1
    have hD : va_D (lA s) ((wX cI cZ q tc nc ac ch U Z B L F ++ [(o, .inl (cJ, 1, .inr (.inl f)))]) ++ wM cI cZ r 1 tc nc ac ch V Y B L F) := va_D_re hD rfl
    clear hP1 hk1 hz1
    generalize H1 = H at hP hS ⊢
    refine lv_istore (lv' := [(6, .int 0), (5, .int 1), (4, .int (nI i)), (3, .ref o), (2, .ref (r 0)), (1, .ref (q 0)), (0, .ref b)]) hx hb dL_law_584 hl (by decide) rfl (fun ls hl => ?_)
    refine lv_aload_n hx hb dL_law_586 rfl (lv_at hl 4 rfl) ?_
    refine pcV_i (As := []) (rest := []) ⟨hx, hb, hml, hown, hts⟩ (g_M_thrown l (P_r hP) htc hnc hac) (cwV 0 hts gL_law_X1_thrown rfl rfl rfl hdX1_thrown ⟨Nat.le_of_ble_eq_true rfl, Nat.le_of_ble_eq_true rfl⟩) (va_recv hK hP (ci := 1) (q0 := 8) rfl rfl) hK2 rfl hl.1 (Nat.le_of_ble_eq_true rfl) rfl dL_law_587 ⟨by show _ ≤ 621274; omega, by show _ ≤ 7232283; omega⟩ ?_
    refine lv_iload hx hb dL_law_590 (lv_at hl 1 rfl) ?_
    refine lv_ieq (tgt := 597) hx hb rfl dL_law_592 (by decide) ?_
    refine lv_iload hx hb dL_law_597 (lv_at hl 1 rfl) ?_
    refine lv_if_ne (tgt := 614) hx hb dL_law_599 (by decide) (fun _ => ?_) (fun h0 => absurd h0 (by decide))
    refine lv_goto (tgt := 1543) hx hb dL_law_614 (by decide) ?_
    refine W.widen (k := cells + 9) (n := slots + 58) (by omega) (by omega) ?_
    exact kk _ _ _ ⟨1, tc, nc, ac, ch, U, Z, V, Y, B, L, F, f, hS, hP, hD, htc, hnc, hac, hu, hz, hB, hB0, lv_sub hl [2, 3, 4, 5, 6] rfl⟩
  · skip
    refine lv_aload_n hx hb dL_law_561 rfl (lv_at hl 3 rfl) ?_
    refine lv_aload_n hx hb dL_law_562 rfl (lv_at hl 4 rfl) ?_
    refine lv_iload hx hb dL_law_563 (lv_at hl 0 rfl) ?_
    refine lv_iconst (v := 1) hx hb dL_law_565 (by decide) ?_
    refine lv_iadd hx hb dL_law_566 ?_
    refine lv_cst (y := nI (i + 1)) (nI_add i 1) ?_
    refine s_ld hx hb hX hbl hbA hS (j := i + 1) (by omega) hN dL_law_567 ?_
    refine lv_cst (y := nI t) ev ?_
    refine lv_aload_n hx hb dL_law_568 rfl (lv_at hl 1 rfl) ?_
    refine sc_g (As := [.ref (q 0), .int (nI t), .ref o]) (rest := []) ⟨hx, hb, hml, hown, hts⟩ (w_L_smudgesWith l (P_l hP) htc hnc hac (D_l hD) (t := t) ht) (vx_cwSW 3 hts gL_law_L_smudgesWith rfl rfl rfl hdL_smudgesWith ⟨Nat.le_of_ble_eq_true rfl, Nat.le_of_ble_eq_true rfl⟩) hK hS (fr_l hD hS hA) rfl hl.1 (Nat.le_of_ble_eq_true rfl) rfl dL_law_569 ⟨by show _ ≤ 621274; omega, by show _ ≤ 7232283; omega⟩ (fun H1 locs hP1 hz1 hk1 hS => ?_)
    have hP : va_P D vwCl ((wX cI cZ q tc nc ac ch U Z B L F ++ [(o, .inl (cJ, 1, .inr (.inl (vp_updL f 0 (nI (ct (fun j => Z j && ho (U j) (nI t)) nc)).toInt64))))]) ++ wM cI cZ r th tc nc ac ch V Y B L F) H1 := up_l hP hD hk1 hP1
    have hD : va_D (lA s) ((wX cI cZ q tc nc ac ch U Z B L F ++ [(o, .inl (cJ, 1, .inr (.inl (vp_updL f 0 (nI (ct (fun j => Z j && ho (U j) (nI t)) nc)).toInt64))))]) ++ wM cI cZ r th tc nc ac ch V Y B L F) := va_D_re hD rfl
    clear hP1 hk1 hz1
    generalize H1 = H at hP hS ⊢
    refine lv_istore (lv' := [(5, .int 0), (4, .int (nI i)), (3, .ref o), (2, .ref (r 0)), (1, .ref (q 0)), (0, .ref b)]) hx hb dL_law_572 hl (by decide) rfl (fun ls hl => ?_)
    refine lv_aload_n hx hb dL_law_574 rfl (lv_at hl 3 rfl) ?_
    refine lv_aload_n hx hb dL_law_575 rfl (lv_at hl 5 rfl) ?_
    refine lv_iload hx hb dL_law_576 (lv_at hl 1 rfl) ?_
    refine lv_iconst (v := 1) hx hb dL_law_578 (by decide) ?_
    refine lv_iadd hx hb dL_law_579 ?_
    refine lv_cst (y := nI (i + 1)) (nI_add i 1) ?_
    refine s_ld hx hb hX hbl hbA hS (j := i + 1) (by omega) hN dL_law_580 ?_
    refine lv_cst (y := nI t) ev ?_
    refine wcV_i (As := [.int (nI t)]) (rest := []) ⟨hx, hb, hml, hown, hts⟩ (w_M_smudgesWith l (P_r hP) htc hnc hac (D_r hD) (t := t) ht) (cwV 1 hts gL_law_X1_smudgesWith rfl rfl rfl hdX1_smudgesWith ⟨Nat.le_of_ble_eq_true rfl, Nat.le_of_ble_eq_true rfl⟩) (va_recv hK hP (ci := 1) (q0 := 8) rfl rfl) hK2 hS (fr_r hD hS hA) rfl hl.1 (Nat.le_of_ble_eq_true rfl) rfl dL_law_581 ⟨by show _ ≤ 621274; omega, by show _ ≤ 7232283; omega⟩ (fun H1 locs hP1 hz1 hk1 hS => ?_)
    have hP : va_P D vwCl ((wX cI cZ q tc nc ac ch U Z B L F ++ [(o, .inl (cJ, 1, .inr (.inl (vp_updL f 0 (nI (ct (fun j => Z j && ho (U j) (nI t)) nc)).toInt64))))]) ++ wM cI cZ r 0 tc nc ac ch V Y B L F) H1 := up_r hP hD hk1 hP1
    have hD : va_D (lA s) ((wX cI cZ q tc nc ac ch U Z B L F ++ [(o, .inl (cJ, 1, .inr (.inl (vp_updL f 0 (nI (ct (fun j => Z j && ho (U j) (nI t)) nc)).toInt64))))]) ++ wM cI cZ r 0 tc nc ac ch V Y B L F) := va_D_re hD rfl
    clear hP1 hk1 hz1
    generalize H1 = H at hP hS ⊢
    refine lv_cst (y := nI (ct (fun j => Z j && ho (U j) (nI t)) nc)) (congrArg nI (sw_eq hu hz (by omega : t < 32))) ?_
    refine lv_istore (lv' := [(6, .int (nI (ct (fun j => Z j && ho (U j) (nI t)) nc))), (5, .int 0), (4, .int (nI i)), (3, .ref o), (2, .ref (r 0)), (1, .ref (q 0)), (0, .ref b)]) hx hb dL_law_584 hl (by decide) rfl (fun ls hl => ?_)
    refine lv_aload_n hx hb dL_law_586 rfl (lv_at hl 4 rfl) ?_
    refine pcV_i (As := []) (rest := []) ⟨hx, hb, hml, hown, hts⟩ (g_M_thrown l (P_r hP) htc hnc hac) (cwV 0 hts gL_law_X1_thrown rfl rfl rfl hdX1_thrown ⟨Nat.le_of_ble_eq_true rfl, Nat.le_of_ble_eq_true rfl⟩) (va_recv hK hP (ci := 1) (q0 := 8) rfl rfl) hK2 rfl hl.1 (Nat.le_of_ble_eq_true rfl) rfl dL_law_587 ⟨by show _ ≤ 621274; omega, by show _ ≤ 7232283; omega⟩ ?_
    refine lv_iload hx hb dL_law_590 (lv_at hl 1 rfl) ?_
    refine lv_ieq (tgt := 597) hx hb rfl dL_law_592 (by decide) ?_
    refine lv_iload hx hb dL_law_597 (lv_at hl 1 rfl) ?_
    refine lv_if_ne (tgt := 614) hx hb dL_law_599 (by decide) (fun h0 => absurd rfl h0) (fun _ => ?_)
    refine lv_aload_n hx hb dL_law_602 rfl (lv_at hl 3 rfl) ?_
    refine lv_iconst (v := 0) hx hb dL_law_603 (by decide) ?_
    refine ll_ld hx hb hK hP 7 2 rfl rfl dL_law_604 ?_
    refine lv_iload hx hb dL_law_605 (lv_at hl 0 rfl) ?_
    refine lv_i2l (v := (nI (ct (fun j => Z j && ho (U j) (nI t)) nc)).toInt64) hx hb dL_law_607 rfl ?_
    refine lv_leq (tgt := 614) hx hb rfl dL_law_608 dL_law_609 (by decide) ?_
    refine lv_goto (tgt := 1543) hx hb dL_law_614 (by decide) ?_
    refine W.widen (k := cells + 9) (n := slots + 58) (by omega) (by omega) ?_
    exact kk _ _ _ ⟨0, tc, nc, ac, ch, U, Z, V, Y, B, L, F, (vp_updL f 0 (nI (ct (fun j => Z j && ho (U j) (nI t)) nc)).toInt64), hS, hP, hD, htc, hnc, hac, hu, hz, hB, hB0, lv_sub hl [2, 3, 4, 5, 6] rfl⟩
set_option maxHeartbeats 4000000 in
set_option maxRecDepth 100000 in
theorem lc_isCleared (l : Launch) {p : Program} {e : Env} {s : State} {m : MethodId} {below : List Frame} {meth : Method} {c : Code} {b N : Nat} {xs : Nat → Int32} {D : va_G} {cI cZ cJ : ClassId} {q r : Nat → Nat} {o i : Nat} {H : Heap} {locs : List Loc} {ls : Array Slot} {cells slots : Nat} {Q : State → Prop} (C : LCtx l p s m c b N xs D cI cZ cJ) (h : LStt s D cI cZ cJ q r o b i H locs ls) (hi : i + 2 < N) (hcl : cells + 9 ≤ 621274) (hsl : slots + 58 ≤ 7232283) (kk : ∀ (H : Heap) (locs : List Loc) (ls : Array Slot), LStt s D cI cZ cJ q r o b i H locs ls → W p l e room_1 s m #[Value.ref b] below meth c H locs (cells + 9) (slots + 58) Q (F0 m 1543 ls [])) : W p l e room_1 s m #[Value.ref b] below meth c H locs cells slots Q (F0 m 617 ls []) := by
  obtain ⟨hx, hb, hml, hown, hts, hX, hbl, hN, hl0, hK, hE0⟩ := C
  obtain ⟨th, tc, nc, ac, ch, U, Z, V, Y, B, L, F, f, hS, hP, hD, htc, hnc, hac, hu, hz, hB, hB0, hl⟩ := h
  have hK2 : va_K D vwCl (tyA cI cZ) s := hK.sub [0, 1] rfl
  have hA : ∀ q : Nat, s.heap.size ≤ q → lA s q := fun _ h => h
  have hbA : ¬ lA s b := Nat.not_le.mpr hbl
  have hpw := pw_in htc
  rcases ar_th (xs (i + 1)) tc with hv | ⟨t, ht, ev⟩
  · skip
    refine lv_aload_n hx hb dL_law_617 rfl (lv_at hl 3 rfl) ?_
    refine lv_aload_n hx hb dL_law_618 rfl (lv_at hl 4 rfl) ?_
    refine lv_iload hx hb dL_law_619 (lv_at hl 0 rfl) ?_
    refine lv_iconst (v := 1) hx hb dL_law_621 (by decide) ?_
    refine lv_iadd hx hb dL_law_622 ?_
    refine lv_cst (y := nI (i + 1)) (nI_add i 1) ?_
    refine s_ld hx hb hX hbl hbA hS (j := i + 1) (by omega) hN dL_law_623 ?_
    refine lv_aload_n hx hb dL_law_624 rfl (lv_at hl 1 rfl) ?_
    refine sc_b (k := 1) (As := [.ref (q 0), .int (xs (i + 1)), .ref o]) (rest := []) ⟨hx, hb, hml, hown, hts⟩ (wx_L_isCleared l hl0 (P_l hP) htc hnc hac (v := xs (i + 1)) hv) (vx_cwSW 3 hts gL_law_L_isCleared rfl rfl rfl hdL_isCleared ⟨Nat.le_of_ble_eq_true rfl, Nat.le_of_ble_eq_true rfl⟩) hK (xE_law hE0 hS) hS rfl hl.1 (Nat.le_of_ble_eq_true rfl) rfl dL_law_625 ⟨by show _ ≤ 621274; omega, by show _ ≤ 7232283; omega⟩ (fun H1 locs hz1 hk1 hS => ?_)
    have hP : va_P D vwCl ((wX cI cZ q tc nc ac ch U Z B L F ++ [(o, .inl (cJ, 1, .inr (.inl f)))]) ++ wM cI cZ r th tc nc ac ch V Y B L F) H1 := grow_P hP hk1
    clear hk1 hz1
    generalize H1 = H at hP hS ⊢
    refine lv_istore (lv' := [(5, .int 1), (4, .int (nI i)), (3, .ref o), (2, .ref (r 0)), (1, .ref (q 0)), (0, .ref b)]) hx hb dL_law_628 hl (by decide) rfl (fun ls hl => ?_)
    refine lv_aload_n hx hb dL_law_630 rfl (lv_at hl 3 rfl) ?_
    refine lv_aload_n hx hb dL_law_631 rfl (lv_at hl 5 rfl) ?_
    refine lv_iload hx hb dL_law_632 (lv_at hl 1 rfl) ?_
    refine lv_iconst (v := 1) hx hb dL_law_634 (by decide) ?_
    refine lv_iadd hx hb dL_law_635 ?_
    refine lv_cst (y := nI (i + 1)) (nI_add i 1) ?_
    refine s_ld hx hb hX hbl hbA hS (j := i + 1) (by omega) hN dL_law_636 ?_
    refine wcV_i (As := [.int (xs (i + 1))]) (rest := []) ⟨hx, hb, hml, hown, hts⟩ (wb_M_isCleared l (P_r hP) htc hnc hac (D_r hD) (v := xs (i + 1)) hv) (cwV 1 hts gL_law_X1_isCleared rfl rfl rfl hdX1_isCleared ⟨Nat.le_of_ble_eq_true rfl, Nat.le_of_ble_eq_true rfl⟩) (va_recv hK hP (ci := 1) (q0 := 8) rfl rfl) hK2 hS (fr_r hD hS hA) rfl hl.1 (Nat.le_of_ble_eq_true rfl) rfl dL_law_637 ⟨by show _ ≤ 621274; omega, by show _ ≤ 7232283; omega⟩ (fun H1 locs hP1 hz1 hk1 hS => ?_)
    have hP : va_P D vwCl ((wX cI cZ q tc nc ac ch U Z B L F ++ [(o, .inl (cJ, 1, .inr (.inl f)))]) ++ wM cI cZ r 1 tc nc ac ch V Y B L F) H1 := up_r hP hD hk1 hP1
    have hD : va_D (lA s) ((wX cI cZ q tc nc ac ch U Z B L F ++ [(o, .inl (cJ, 1, .inr (.inl f)))]) ++ wM cI cZ r 1 tc nc ac ch V Y B L F) := va_D_re hD rfl
    clear hP1 hk1 hz1
    generalize H1 = H at hP hS ⊢
    refine lv_istore (lv' := [(6, .int 0), (5, .int 1), (4, .int (nI i)), (3, .ref o), (2, .ref (r 0)), (1, .ref (q 0)), (0, .ref b)]) hx hb dL_law_640 hl (by decide) rfl (fun ls hl => ?_)
    refine lv_aload_n hx hb dL_law_642 rfl (lv_at hl 4 rfl) ?_
    refine pcV_i (As := []) (rest := []) ⟨hx, hb, hml, hown, hts⟩ (g_M_thrown l (P_r hP) htc hnc hac) (cwV 0 hts gL_law_X1_thrown rfl rfl rfl hdX1_thrown ⟨Nat.le_of_ble_eq_true rfl, Nat.le_of_ble_eq_true rfl⟩) (va_recv hK hP (ci := 1) (q0 := 8) rfl rfl) hK2 rfl hl.1 (Nat.le_of_ble_eq_true rfl) rfl dL_law_643 ⟨by show _ ≤ 621274; omega, by show _ ≤ 7232283; omega⟩ ?_
    refine lv_iload hx hb dL_law_646 (lv_at hl 1 rfl) ?_
    refine lv_ieq (tgt := 653) hx hb rfl dL_law_648 (by decide) ?_
    refine lv_iload hx hb dL_law_653 (lv_at hl 1 rfl) ?_
    refine lv_if_ne (tgt := 677) hx hb dL_law_655 (by decide) (fun _ => ?_) (fun h0 => absurd h0 (by decide))
    refine lv_goto (tgt := 1543) hx hb dL_law_677 (by decide) ?_
    refine W.widen (k := cells + 9) (n := slots + 58) (by omega) (by omega) ?_
    exact kk _ _ _ ⟨1, tc, nc, ac, ch, U, Z, V, Y, B, L, F, f, hS, hP, hD, htc, hnc, hac, hu, hz, hB, hB0, lv_sub hl [2, 3, 4, 5, 6] rfl⟩
  · skip
    refine lv_aload_n hx hb dL_law_617 rfl (lv_at hl 3 rfl) ?_
    refine lv_aload_n hx hb dL_law_618 rfl (lv_at hl 4 rfl) ?_
    refine lv_iload hx hb dL_law_619 (lv_at hl 0 rfl) ?_
    refine lv_iconst (v := 1) hx hb dL_law_621 (by decide) ?_
    refine lv_iadd hx hb dL_law_622 ?_
    refine lv_cst (y := nI (i + 1)) (nI_add i 1) ?_
    refine s_ld hx hb hX hbl hbA hS (j := i + 1) (by omega) hN dL_law_623 ?_
    refine lv_cst (y := nI t) ev ?_
    refine lv_aload_n hx hb dL_law_624 rfl (lv_at hl 1 rfl) ?_
    refine sc_g (As := [.ref (q 0), .int (nI t), .ref o]) (rest := []) ⟨hx, hb, hml, hown, hts⟩ (w_L_isCleared l (P_l hP) htc hnc hac (D_l hD) (t := t) ht) (vx_cwSW 3 hts gL_law_L_isCleared rfl rfl rfl hdL_isCleared ⟨Nat.le_of_ble_eq_true rfl, Nat.le_of_ble_eq_true rfl⟩) hK hS (fr_l hD hS hA) rfl hl.1 (Nat.le_of_ble_eq_true rfl) rfl dL_law_625 ⟨by show _ ≤ 621274; omega, by show _ ≤ 7232283; omega⟩ (fun H1 locs hP1 hz1 hk1 hS => ?_)
    have hP : va_P D vwCl ((wX cI cZ q tc nc ac ch U Z B L F ++ [(o, .inl (cJ, 1, .inr (.inl (vp_updL f 0 (bI (ho (cld U Z nc) (nI t))).toInt64))))]) ++ wM cI cZ r th tc nc ac ch V Y B L F) H1 := up_l hP hD hk1 hP1
    have hD : va_D (lA s) ((wX cI cZ q tc nc ac ch U Z B L F ++ [(o, .inl (cJ, 1, .inr (.inl (vp_updL f 0 (bI (ho (cld U Z nc) (nI t))).toInt64))))]) ++ wM cI cZ r th tc nc ac ch V Y B L F) := va_D_re hD rfl
    clear hP1 hk1 hz1
    generalize H1 = H at hP hS ⊢
    refine lv_istore (lv' := [(5, .int 0), (4, .int (nI i)), (3, .ref o), (2, .ref (r 0)), (1, .ref (q 0)), (0, .ref b)]) hx hb dL_law_628 hl (by decide) rfl (fun ls hl => ?_)
    refine lv_aload_n hx hb dL_law_630 rfl (lv_at hl 3 rfl) ?_
    refine lv_aload_n hx hb dL_law_631 rfl (lv_at hl 5 rfl) ?_
    refine lv_iload hx hb dL_law_632 (lv_at hl 1 rfl) ?_
    refine lv_iconst (v := 1) hx hb dL_law_634 (by decide) ?_
    refine lv_iadd hx hb dL_law_635 ?_
    refine lv_cst (y := nI (i + 1)) (nI_add i 1) ?_
    refine s_ld hx hb hX hbl hbA hS (j := i + 1) (by omega) hN dL_law_636 ?_
    refine lv_cst (y := nI t) ev ?_
    refine wcV_i (As := [.int (nI t)]) (rest := []) ⟨hx, hb, hml, hown, hts⟩ (w_M_isCleared l (P_r hP) htc hnc hac (D_r hD) (t := t) ht) (cwV 1 hts gL_law_X1_isCleared rfl rfl rfl hdX1_isCleared ⟨Nat.le_of_ble_eq_true rfl, Nat.le_of_ble_eq_true rfl⟩) (va_recv hK hP (ci := 1) (q0 := 8) rfl rfl) hK2 hS (fr_r hD hS hA) rfl hl.1 (Nat.le_of_ble_eq_true rfl) rfl dL_law_637 ⟨by show _ ≤ 621274; omega, by show _ ≤ 7232283; omega⟩ (fun H1 locs hP1 hz1 hk1 hS => ?_)
    have hP : va_P D vwCl ((wX cI cZ q tc nc ac ch U Z B L F ++ [(o, .inl (cJ, 1, .inr (.inl (vp_updL f 0 (bI (ho (cld U Z nc) (nI t))).toInt64))))]) ++ wM cI cZ r 0 tc nc ac ch V Y B L F) H1 := up_r hP hD hk1 hP1
    have hD : va_D (lA s) ((wX cI cZ q tc nc ac ch U Z B L F ++ [(o, .inl (cJ, 1, .inr (.inl (vp_updL f 0 (bI (ho (cld U Z nc) (nI t))).toInt64))))]) ++ wM cI cZ r 0 tc nc ac ch V Y B L F) := va_D_re hD rfl
    clear hP1 hk1 hz1
    generalize H1 = H at hP hS ⊢
    refine lv_cst (y := bI (ho (cld U Z nc) (nI t))) (congrArg bI (cl_eq hu hz (by omega : t < 32))) ?_
    refine lv_istore (lv' := [(6, .int (bI (ho (cld U Z nc) (nI t)))), (5, .int 0), (4, .int (nI i)), (3, .ref o), (2, .ref (r 0)), (1, .ref (q 0)), (0, .ref b)]) hx hb dL_law_640 hl (by decide) rfl (fun ls hl => ?_)
    refine lv_aload_n hx hb dL_law_642 rfl (lv_at hl 4 rfl) ?_
    refine pcV_i (As := []) (rest := []) ⟨hx, hb, hml, hown, hts⟩ (g_M_thrown l (P_r hP) htc hnc hac) (cwV 0 hts gL_law_X1_thrown rfl rfl rfl hdX1_thrown ⟨Nat.le_of_ble_eq_true rfl, Nat.le_of_ble_eq_true rfl⟩) (va_recv hK hP (ci := 1) (q0 := 8) rfl rfl) hK2 rfl hl.1 (Nat.le_of_ble_eq_true rfl) rfl dL_law_643 ⟨by show _ ≤ 621274; omega, by show _ ≤ 7232283; omega⟩ ?_
    refine lv_iload hx hb dL_law_646 (lv_at hl 1 rfl) ?_
    refine lv_ieq (tgt := 653) hx hb rfl dL_law_648 (by decide) ?_
    refine lv_iload hx hb dL_law_653 (lv_at hl 1 rfl) ?_
    refine lv_if_ne (tgt := 677) hx hb dL_law_655 (by decide) (fun h0 => absurd rfl h0) (fun _ => ?_)
    refine lv_aload_n hx hb dL_law_658 rfl (lv_at hl 3 rfl) ?_
    refine lv_iconst (v := 0) hx hb dL_law_659 (by decide) ?_
    refine ll_ld hx hb hK hP 7 2 rfl rfl dL_law_660 ?_
    refine lv_iload hx hb dL_law_661 (lv_at hl 0 rfl) ?_
    refine lv_bl (t0 := 670) hx hb dL_law_663 dL_law_666 dL_law_667 dL_law_670 (by decide) (by decide) ?_
    refine lv_leq (tgt := 677) hx hb rfl dL_law_671 dL_law_672 (by decide) ?_
    refine lv_goto (tgt := 1543) hx hb dL_law_677 (by decide) ?_
    refine W.widen (k := cells + 9) (n := slots + 58) (by omega) (by omega) ?_
    exact kk _ _ _ ⟨0, tc, nc, ac, ch, U, Z, V, Y, B, L, F, (vp_updL f 0 (bI (ho (cld U Z nc) (nI t))).toInt64), hS, hP, hD, htc, hnc, hac, hu, hz, hB, hB0, lv_sub hl [2, 3, 4, 5, 6] rfl⟩
set_option maxHeartbeats 4000000 in
set_option maxRecDepth 100000 in
theorem lc_isProved (l : Launch) {p : Program} {e : Env} {s : State} {m : MethodId} {below : List Frame} {meth : Method} {c : Code} {b N : Nat} {xs : Nat → Int32} {D : va_G} {cI cZ cJ : ClassId} {q r : Nat → Nat} {o i : Nat} {H : Heap} {locs : List Loc} {ls : Array Slot} {cells slots : Nat} {Q : State → Prop} (C : LCtx l p s m c b N xs D cI cZ cJ) (h : LStt s D cI cZ cJ q r o b i H locs ls) (hi : i + 2 < N) (hcl : cells + 9 ≤ 621274) (hsl : slots + 58 ≤ 7232283) (kk : ∀ (H : Heap) (locs : List Loc) (ls : Array Slot), LStt s D cI cZ cJ q r o b i H locs ls → W p l e room_1 s m #[Value.ref b] below meth c H locs (cells + 9) (slots + 58) Q (F0 m 1543 ls [])) : W p l e room_1 s m #[Value.ref b] below meth c H locs cells slots Q (F0 m 680 ls []) := by
  obtain ⟨hx, hb, hml, hown, hts, hX, hbl, hN, hl0, hK, hE0⟩ := C
  obtain ⟨th, tc, nc, ac, ch, U, Z, V, Y, B, L, F, f, hS, hP, hD, htc, hnc, hac, hu, hz, hB, hB0, hl⟩ := h
  have hK2 : va_K D vwCl (tyA cI cZ) s := hK.sub [0, 1] rfl
  have hA : ∀ q : Nat, s.heap.size ≤ q → lA s q := fun _ h => h
  have hbA : ¬ lA s b := Nat.not_le.mpr hbl
  have hpw := pw_in htc
  rcases ar_th (xs (i + 1)) tc with hv | ⟨t, ht, ev⟩
  · skip
    refine lv_aload_n hx hb dL_law_680 rfl (lv_at hl 3 rfl) ?_
    refine lv_aload_n hx hb dL_law_681 rfl (lv_at hl 4 rfl) ?_
    refine lv_iload hx hb dL_law_682 (lv_at hl 0 rfl) ?_
    refine lv_iconst (v := 1) hx hb dL_law_684 (by decide) ?_
    refine lv_iadd hx hb dL_law_685 ?_
    refine lv_cst (y := nI (i + 1)) (nI_add i 1) ?_
    refine s_ld hx hb hX hbl hbA hS (j := i + 1) (by omega) hN dL_law_686 ?_
    refine lv_aload_n hx hb dL_law_687 rfl (lv_at hl 1 rfl) ?_
    refine sc_b (k := 1) (As := [.ref (q 0), .int (xs (i + 1)), .ref o]) (rest := []) ⟨hx, hb, hml, hown, hts⟩ (wx_L_isProved l hl0 (P_l hP) htc hnc hac (v := xs (i + 1)) hv) (vx_cwSW 3 hts gL_law_L_isProved rfl rfl rfl hdL_isProved ⟨Nat.le_of_ble_eq_true rfl, Nat.le_of_ble_eq_true rfl⟩) hK (xE_law hE0 hS) hS rfl hl.1 (Nat.le_of_ble_eq_true rfl) rfl dL_law_688 ⟨by show _ ≤ 621274; omega, by show _ ≤ 7232283; omega⟩ (fun H1 locs hz1 hk1 hS => ?_)
    have hP : va_P D vwCl ((wX cI cZ q tc nc ac ch U Z B L F ++ [(o, .inl (cJ, 1, .inr (.inl f)))]) ++ wM cI cZ r th tc nc ac ch V Y B L F) H1 := grow_P hP hk1
    clear hk1 hz1
    generalize H1 = H at hP hS ⊢
    refine lv_istore (lv' := [(5, .int 1), (4, .int (nI i)), (3, .ref o), (2, .ref (r 0)), (1, .ref (q 0)), (0, .ref b)]) hx hb dL_law_691 hl (by decide) rfl (fun ls hl => ?_)
    refine lv_aload_n hx hb dL_law_693 rfl (lv_at hl 3 rfl) ?_
    refine lv_aload_n hx hb dL_law_694 rfl (lv_at hl 5 rfl) ?_
    refine lv_iload hx hb dL_law_695 (lv_at hl 1 rfl) ?_
    refine lv_iconst (v := 1) hx hb dL_law_697 (by decide) ?_
    refine lv_iadd hx hb dL_law_698 ?_
    refine lv_cst (y := nI (i + 1)) (nI_add i 1) ?_
    refine s_ld hx hb hX hbl hbA hS (j := i + 1) (by omega) hN dL_law_699 ?_
    refine wcV_i (As := [.int (xs (i + 1))]) (rest := []) ⟨hx, hb, hml, hown, hts⟩ (wb_M_isProved l (P_r hP) htc hnc hac (D_r hD) (v := xs (i + 1)) hv) (cwV 1 hts gL_law_X1_isProved rfl rfl rfl hdX1_isProved ⟨Nat.le_of_ble_eq_true rfl, Nat.le_of_ble_eq_true rfl⟩) (va_recv hK hP (ci := 1) (q0 := 8) rfl rfl) hK2 hS (fr_r hD hS hA) rfl hl.1 (Nat.le_of_ble_eq_true rfl) rfl dL_law_700 ⟨by show _ ≤ 621274; omega, by show _ ≤ 7232283; omega⟩ (fun H1 locs hP1 hz1 hk1 hS => ?_)
    have hP : va_P D vwCl ((wX cI cZ q tc nc ac ch U Z B L F ++ [(o, .inl (cJ, 1, .inr (.inl f)))]) ++ wM cI cZ r 1 tc nc ac ch V Y B L F) H1 := up_r hP hD hk1 hP1
    have hD : va_D (lA s) ((wX cI cZ q tc nc ac ch U Z B L F ++ [(o, .inl (cJ, 1, .inr (.inl f)))]) ++ wM cI cZ r 1 tc nc ac ch V Y B L F) := va_D_re hD rfl
    clear hP1 hk1 hz1
    generalize H1 = H at hP hS ⊢
    refine lv_istore (lv' := [(6, .int 0), (5, .int 1), (4, .int (nI i)), (3, .ref o), (2, .ref (r 0)), (1, .ref (q 0)), (0, .ref b)]) hx hb dL_law_703 hl (by decide) rfl (fun ls hl => ?_)
    refine lv_aload_n hx hb dL_law_705 rfl (lv_at hl 4 rfl) ?_
    refine pcV_i (As := []) (rest := []) ⟨hx, hb, hml, hown, hts⟩ (g_M_thrown l (P_r hP) htc hnc hac) (cwV 0 hts gL_law_X1_thrown rfl rfl rfl hdX1_thrown ⟨Nat.le_of_ble_eq_true rfl, Nat.le_of_ble_eq_true rfl⟩) (va_recv hK hP (ci := 1) (q0 := 8) rfl rfl) hK2 rfl hl.1 (Nat.le_of_ble_eq_true rfl) rfl dL_law_706 ⟨by show _ ≤ 621274; omega, by show _ ≤ 7232283; omega⟩ ?_
    refine lv_iload hx hb dL_law_709 (lv_at hl 1 rfl) ?_
    refine lv_ieq (tgt := 716) hx hb rfl dL_law_711 (by decide) ?_
    refine lv_iload hx hb dL_law_716 (lv_at hl 1 rfl) ?_
    refine lv_if_ne (tgt := 740) hx hb dL_law_718 (by decide) (fun _ => ?_) (fun h0 => absurd h0 (by decide))
    refine lv_goto (tgt := 1543) hx hb dL_law_740 (by decide) ?_
    refine W.widen (k := cells + 9) (n := slots + 58) (by omega) (by omega) ?_
    exact kk _ _ _ ⟨1, tc, nc, ac, ch, U, Z, V, Y, B, L, F, f, hS, hP, hD, htc, hnc, hac, hu, hz, hB, hB0, lv_sub hl [2, 3, 4, 5, 6] rfl⟩
  · skip
    refine lv_aload_n hx hb dL_law_680 rfl (lv_at hl 3 rfl) ?_
    refine lv_aload_n hx hb dL_law_681 rfl (lv_at hl 4 rfl) ?_
    refine lv_iload hx hb dL_law_682 (lv_at hl 0 rfl) ?_
    refine lv_iconst (v := 1) hx hb dL_law_684 (by decide) ?_
    refine lv_iadd hx hb dL_law_685 ?_
    refine lv_cst (y := nI (i + 1)) (nI_add i 1) ?_
    refine s_ld hx hb hX hbl hbA hS (j := i + 1) (by omega) hN dL_law_686 ?_
    refine lv_cst (y := nI t) ev ?_
    refine lv_aload_n hx hb dL_law_687 rfl (lv_at hl 1 rfl) ?_
    refine sc_g (As := [.ref (q 0), .int (nI t), .ref o]) (rest := []) ⟨hx, hb, hml, hown, hts⟩ (w_L_isProved l (P_l hP) htc hnc hac (D_l hD) (t := t) ht) (vx_cwSW 3 hts gL_law_L_isProved rfl rfl rfl hdL_isProved ⟨Nat.le_of_ble_eq_true rfl, Nat.le_of_ble_eq_true rfl⟩) hK hS (fr_l hD hS hA) rfl hl.1 (Nat.le_of_ble_eq_true rfl) rfl dL_law_688 ⟨by show _ ≤ 621274; omega, by show _ ≤ 7232283; omega⟩ (fun H1 locs hP1 hz1 hk1 hS => ?_)
    have hP : va_P D vwCl ((wX cI cZ q tc nc ac ch U Z B L F ++ [(o, .inl (cJ, 1, .inr (.inl (vp_updL f 0 (bI (anyb (fun j => Z j && ho (U j) (nI t) && decide (U j &&& ((cld U Z nc ||| ((1 : Int32) <<< (nI t &&& 31))) ^^^ (-1)) = 0)) nc)).toInt64))))]) ++ wM cI cZ r th tc nc ac ch V Y B L F) H1 := up_l hP hD hk1 hP1
    have hD : va_D (lA s) ((wX cI cZ q tc nc ac ch U Z B L F ++ [(o, .inl (cJ, 1, .inr (.inl (vp_updL f 0 (bI (anyb (fun j => Z j && ho (U j) (nI t) && decide (U j &&& ((cld U Z nc ||| ((1 : Int32) <<< (nI t &&& 31))) ^^^ (-1)) = 0)) nc)).toInt64))))]) ++ wM cI cZ r th tc nc ac ch V Y B L F) := va_D_re hD rfl
    clear hP1 hk1 hz1
    generalize H1 = H at hP hS ⊢
    refine lv_istore (lv' := [(5, .int 0), (4, .int (nI i)), (3, .ref o), (2, .ref (r 0)), (1, .ref (q 0)), (0, .ref b)]) hx hb dL_law_691 hl (by decide) rfl (fun ls hl => ?_)
    refine lv_aload_n hx hb dL_law_693 rfl (lv_at hl 3 rfl) ?_
    refine lv_aload_n hx hb dL_law_694 rfl (lv_at hl 5 rfl) ?_
    refine lv_iload hx hb dL_law_695 (lv_at hl 1 rfl) ?_
    refine lv_iconst (v := 1) hx hb dL_law_697 (by decide) ?_
    refine lv_iadd hx hb dL_law_698 ?_
    refine lv_cst (y := nI (i + 1)) (nI_add i 1) ?_
    refine s_ld hx hb hX hbl hbA hS (j := i + 1) (by omega) hN dL_law_699 ?_
    refine lv_cst (y := nI t) ev ?_
    refine wcV_i (As := [.int (nI t)]) (rest := []) ⟨hx, hb, hml, hown, hts⟩ (w_M_isProved l (P_r hP) htc hnc hac (D_r hD) (t := t) ht) (cwV 1 hts gL_law_X1_isProved rfl rfl rfl hdX1_isProved ⟨Nat.le_of_ble_eq_true rfl, Nat.le_of_ble_eq_true rfl⟩) (va_recv hK hP (ci := 1) (q0 := 8) rfl rfl) hK2 hS (fr_r hD hS hA) rfl hl.1 (Nat.le_of_ble_eq_true rfl) rfl dL_law_700 ⟨by show _ ≤ 621274; omega, by show _ ≤ 7232283; omega⟩ (fun H1 locs hP1 hz1 hk1 hS => ?_)
    have hP : va_P D vwCl ((wX cI cZ q tc nc ac ch U Z B L F ++ [(o, .inl (cJ, 1, .inr (.inl (vp_updL f 0 (bI (anyb (fun j => Z j && ho (U j) (nI t) && decide (U j &&& ((cld U Z nc ||| ((1 : Int32) <<< (nI t &&& 31))) ^^^ (-1)) = 0)) nc)).toInt64))))]) ++ wM cI cZ r 0 tc nc ac ch V Y B L F) H1 := up_r hP hD hk1 hP1
    have hD : va_D (lA s) ((wX cI cZ q tc nc ac ch U Z B L F ++ [(o, .inl (cJ, 1, .inr (.inl (vp_updL f 0 (bI (anyb (fun j => Z j && ho (U j) (nI t) && decide (U j &&& ((cld U Z nc ||| ((1 : Int32) <<< (nI t &&& 31))) ^^^ (-1)) = 0)) nc)).toInt64))))]) ++ wM cI cZ r 0 tc nc ac ch V Y B L F) := va_D_re hD rfl
    clear hP1 hk1 hz1
    generalize H1 = H at hP hS ⊢
    refine lv_cst (y := bI (anyb (fun j => Z j && ho (U j) (nI t) && decide (U j &&& ((cld U Z nc ||| ((1 : Int32) <<< (nI t &&& 31))) ^^^ (-1)) = 0)) nc)) (congrArg bI (pv_eq hu hz (by omega : t < 32))) ?_
    refine lv_istore (lv' := [(6, .int (bI (anyb (fun j => Z j && ho (U j) (nI t) && decide (U j &&& ((cld U Z nc ||| ((1 : Int32) <<< (nI t &&& 31))) ^^^ (-1)) = 0)) nc))), (5, .int 0), (4, .int (nI i)), (3, .ref o), (2, .ref (r 0)), (1, .ref (q 0)), (0, .ref b)]) hx hb dL_law_703 hl (by decide) rfl (fun ls hl => ?_)
    refine lv_aload_n hx hb dL_law_705 rfl (lv_at hl 4 rfl) ?_
    refine pcV_i (As := []) (rest := []) ⟨hx, hb, hml, hown, hts⟩ (g_M_thrown l (P_r hP) htc hnc hac) (cwV 0 hts gL_law_X1_thrown rfl rfl rfl hdX1_thrown ⟨Nat.le_of_ble_eq_true rfl, Nat.le_of_ble_eq_true rfl⟩) (va_recv hK hP (ci := 1) (q0 := 8) rfl rfl) hK2 rfl hl.1 (Nat.le_of_ble_eq_true rfl) rfl dL_law_706 ⟨by show _ ≤ 621274; omega, by show _ ≤ 7232283; omega⟩ ?_
    refine lv_iload hx hb dL_law_709 (lv_at hl 1 rfl) ?_
    refine lv_ieq (tgt := 716) hx hb rfl dL_law_711 (by decide) ?_
    refine lv_iload hx hb dL_law_716 (lv_at hl 1 rfl) ?_
    refine lv_if_ne (tgt := 740) hx hb dL_law_718 (by decide) (fun h0 => absurd rfl h0) (fun _ => ?_)
    refine lv_aload_n hx hb dL_law_721 rfl (lv_at hl 3 rfl) ?_
    refine lv_iconst (v := 0) hx hb dL_law_722 (by decide) ?_
    refine ll_ld hx hb hK hP 7 2 rfl rfl dL_law_723 ?_
    refine lv_iload hx hb dL_law_724 (lv_at hl 0 rfl) ?_
    refine lv_bl (t0 := 733) hx hb dL_law_726 dL_law_729 dL_law_730 dL_law_733 (by decide) (by decide) ?_
    refine lv_leq (tgt := 740) hx hb rfl dL_law_734 dL_law_735 (by decide) ?_
    refine lv_goto (tgt := 1543) hx hb dL_law_740 (by decide) ?_
    refine W.widen (k := cells + 9) (n := slots + 58) (by omega) (by omega) ?_
    exact kk _ _ _ ⟨0, tc, nc, ac, ch, U, Z, V, Y, B, L, F, (vp_updL f 0 (bI (anyb (fun j => Z j && ho (U j) (nI t) && decide (U j &&& ((cld U Z nc ||| ((1 : Int32) <<< (nI t &&& 31))) ^^^ (-1)) = 0)) nc)).toInt64), hS, hP, hD, htc, hnc, hac, hu, hz, hB, hB0, lv_sub hl [2, 3, 4, 5, 6] rfl⟩
set_option maxHeartbeats 4000000 in
set_option maxRecDepth 100000 in
theorem lc_setsWith (l : Launch) {p : Program} {e : Env} {s : State} {m : MethodId} {below : List Frame} {meth : Method} {c : Code} {b N : Nat} {xs : Nat → Int32} {D : va_G} {cI cZ cJ : ClassId} {q r : Nat → Nat} {o i : Nat} {H : Heap} {locs : List Loc} {ls : Array Slot} {cells slots : Nat} {Q : State → Prop} (C : LCtx l p s m c b N xs D cI cZ cJ) (h : LStt s D cI cZ cJ q r o b i H locs ls) (hi : i + 2 < N) (hcl : cells + 9 ≤ 621274) (hsl : slots + 58 ≤ 7232283) (kk : ∀ (H : Heap) (locs : List Loc) (ls : Array Slot), LStt s D cI cZ cJ q r o b i H locs ls → W p l e room_1 s m #[Value.ref b] below meth c H locs (cells + 9) (slots + 58) Q (F0 m 1543 ls [])) : W p l e room_1 s m #[Value.ref b] below meth c H locs cells slots Q (F0 m 743 ls []) := by
  obtain ⟨hx, hb, hml, hown, hts, hX, hbl, hN, hl0, hK, hE0⟩ := C
  obtain ⟨th, tc, nc, ac, ch, U, Z, V, Y, B, L, F, f, hS, hP, hD, htc, hnc, hac, hu, hz, hB, hB0, hl⟩ := h
  have hK2 : va_K D vwCl (tyA cI cZ) s := hK.sub [0, 1] rfl
  have hA : ∀ q : Nat, s.heap.size ≤ q → lA s q := fun _ h => h
  have hbA : ¬ lA s b := Nat.not_le.mpr hbl
  have hpw := pw_in htc
  rcases ar_th (xs (i + 1)) tc with hv | ⟨t, ht, ev⟩
  · skip
    refine lv_aload_n hx hb dL_law_743 rfl (lv_at hl 3 rfl) ?_
    refine lv_aload_n hx hb dL_law_744 rfl (lv_at hl 4 rfl) ?_
    refine lv_iload hx hb dL_law_745 (lv_at hl 0 rfl) ?_
    refine lv_iconst (v := 1) hx hb dL_law_747 (by decide) ?_
    refine lv_iadd hx hb dL_law_748 ?_
    refine lv_cst (y := nI (i + 1)) (nI_add i 1) ?_
    refine s_ld hx hb hX hbl hbA hS (j := i + 1) (by omega) hN dL_law_749 ?_
    refine lv_aload_n hx hb dL_law_750 rfl (lv_at hl 1 rfl) ?_
    refine sc_b (k := 1) (As := [.ref (q 0), .int (xs (i + 1)), .ref o]) (rest := []) ⟨hx, hb, hml, hown, hts⟩ (wx_L_setsWith l hl0 (P_l hP) htc hnc hac (v := xs (i + 1)) hv) (vx_cwSW 3 hts gL_law_L_setsWith rfl rfl rfl hdL_setsWith ⟨Nat.le_of_ble_eq_true rfl, Nat.le_of_ble_eq_true rfl⟩) hK (xE_law hE0 hS) hS rfl hl.1 (Nat.le_of_ble_eq_true rfl) rfl dL_law_751 ⟨by show _ ≤ 621274; omega, by show _ ≤ 7232283; omega⟩ (fun H1 locs hz1 hk1 hS => ?_)
    have hP : va_P D vwCl ((wX cI cZ q tc nc ac ch U Z B L F ++ [(o, .inl (cJ, 1, .inr (.inl f)))]) ++ wM cI cZ r th tc nc ac ch V Y B L F) H1 := grow_P hP hk1
    clear hk1 hz1
    generalize H1 = H at hP hS ⊢
    refine lv_istore (lv' := [(5, .int 1), (4, .int (nI i)), (3, .ref o), (2, .ref (r 0)), (1, .ref (q 0)), (0, .ref b)]) hx hb dL_law_754 hl (by decide) rfl (fun ls hl => ?_)
    refine lv_aload_n hx hb dL_law_756 rfl (lv_at hl 3 rfl) ?_
    refine lv_aload_n hx hb dL_law_757 rfl (lv_at hl 5 rfl) ?_
    refine lv_iload hx hb dL_law_758 (lv_at hl 1 rfl) ?_
    refine lv_iconst (v := 1) hx hb dL_law_760 (by decide) ?_
    refine lv_iadd hx hb dL_law_761 ?_
    refine lv_cst (y := nI (i + 1)) (nI_add i 1) ?_
    refine s_ld hx hb hX hbl hbA hS (j := i + 1) (by omega) hN dL_law_762 ?_
    refine wcV_i (As := [.int (xs (i + 1))]) (rest := []) ⟨hx, hb, hml, hown, hts⟩ (wb_M_setsWith l (P_r hP) htc hnc hac (D_r hD) (v := xs (i + 1)) hv) (cwV 1 hts gL_law_X1_setsWith rfl rfl rfl hdX1_setsWith ⟨Nat.le_of_ble_eq_true rfl, Nat.le_of_ble_eq_true rfl⟩) (va_recv hK hP (ci := 1) (q0 := 8) rfl rfl) hK2 hS (fr_r hD hS hA) rfl hl.1 (Nat.le_of_ble_eq_true rfl) rfl dL_law_763 ⟨by show _ ≤ 621274; omega, by show _ ≤ 7232283; omega⟩ (fun H1 locs hP1 hz1 hk1 hS => ?_)
    have hP : va_P D vwCl ((wX cI cZ q tc nc ac ch U Z B L F ++ [(o, .inl (cJ, 1, .inr (.inl f)))]) ++ wM cI cZ r 1 tc nc ac ch V Y B L F) H1 := up_r hP hD hk1 hP1
    have hD : va_D (lA s) ((wX cI cZ q tc nc ac ch U Z B L F ++ [(o, .inl (cJ, 1, .inr (.inl f)))]) ++ wM cI cZ r 1 tc nc ac ch V Y B L F) := va_D_re hD rfl
    clear hP1 hk1 hz1
    generalize H1 = H at hP hS ⊢
    refine lv_istore (lv' := [(6, .int 0), (5, .int 1), (4, .int (nI i)), (3, .ref o), (2, .ref (r 0)), (1, .ref (q 0)), (0, .ref b)]) hx hb dL_law_766 hl (by decide) rfl (fun ls hl => ?_)
    refine lv_aload_n hx hb dL_law_768 rfl (lv_at hl 4 rfl) ?_
    refine pcV_i (As := []) (rest := []) ⟨hx, hb, hml, hown, hts⟩ (g_M_thrown l (P_r hP) htc hnc hac) (cwV 0 hts gL_law_X1_thrown rfl rfl rfl hdX1_thrown ⟨Nat.le_of_ble_eq_true rfl, Nat.le_of_ble_eq_true rfl⟩) (va_recv hK hP (ci := 1) (q0 := 8) rfl rfl) hK2 rfl hl.1 (Nat.le_of_ble_eq_true rfl) rfl dL_law_769 ⟨by show _ ≤ 621274; omega, by show _ ≤ 7232283; omega⟩ ?_
    refine lv_iload hx hb dL_law_772 (lv_at hl 1 rfl) ?_
    refine lv_ieq (tgt := 779) hx hb rfl dL_law_774 (by decide) ?_
    refine lv_iload hx hb dL_law_779 (lv_at hl 1 rfl) ?_
    refine lv_if_ne (tgt := 796) hx hb dL_law_781 (by decide) (fun _ => ?_) (fun h0 => absurd h0 (by decide))
    refine lv_goto (tgt := 1543) hx hb dL_law_796 (by decide) ?_
    refine W.widen (k := cells + 9) (n := slots + 58) (by omega) (by omega) ?_
    exact kk _ _ _ ⟨1, tc, nc, ac, ch, U, Z, V, Y, B, L, F, f, hS, hP, hD, htc, hnc, hac, hu, hz, hB, hB0, lv_sub hl [2, 3, 4, 5, 6] rfl⟩
  · skip
    refine lv_aload_n hx hb dL_law_743 rfl (lv_at hl 3 rfl) ?_
    refine lv_aload_n hx hb dL_law_744 rfl (lv_at hl 4 rfl) ?_
    refine lv_iload hx hb dL_law_745 (lv_at hl 0 rfl) ?_
    refine lv_iconst (v := 1) hx hb dL_law_747 (by decide) ?_
    refine lv_iadd hx hb dL_law_748 ?_
    refine lv_cst (y := nI (i + 1)) (nI_add i 1) ?_
    refine s_ld hx hb hX hbl hbA hS (j := i + 1) (by omega) hN dL_law_749 ?_
    refine lv_cst (y := nI t) ev ?_
    refine lv_aload_n hx hb dL_law_750 rfl (lv_at hl 1 rfl) ?_
    refine sc_g (As := [.ref (q 0), .int (nI t), .ref o]) (rest := []) ⟨hx, hb, hml, hown, hts⟩ (w_L_setsWith l (P_l hP) htc hnc hac (D_l hD) (t := t) ht) (vx_cwSW 3 hts gL_law_L_setsWith rfl rfl rfl hdL_setsWith ⟨Nat.le_of_ble_eq_true rfl, Nat.le_of_ble_eq_true rfl⟩) hK hS (fr_l hD hS hA) rfl hl.1 (Nat.le_of_ble_eq_true rfl) rfl dL_law_751 ⟨by show _ ≤ 621274; omega, by show _ ≤ 7232283; omega⟩ (fun H1 locs hP1 hz1 hk1 hS => ?_)
    have hP : va_P D vwCl ((wX cI cZ q tc nc ac ch U Z B L F ++ [(o, .inl (cJ, 1, .inr (.inl (vp_updL f 0 (nI (mt U Z nc (pw tc) ((1 : Int32) <<< (nI t &&& 31)))).toInt64))))]) ++ wM cI cZ r th tc nc ac ch V Y B L F) H1 := up_l hP hD hk1 hP1
    have hD : va_D (lA s) ((wX cI cZ q tc nc ac ch U Z B L F ++ [(o, .inl (cJ, 1, .inr (.inl (vp_updL f 0 (nI (mt U Z nc (pw tc) ((1 : Int32) <<< (nI t &&& 31)))).toInt64))))]) ++ wM cI cZ r th tc nc ac ch V Y B L F) := va_D_re hD rfl
    clear hP1 hk1 hz1
    generalize H1 = H at hP hS ⊢
    refine lv_istore (lv' := [(5, .int 0), (4, .int (nI i)), (3, .ref o), (2, .ref (r 0)), (1, .ref (q 0)), (0, .ref b)]) hx hb dL_law_754 hl (by decide) rfl (fun ls hl => ?_)
    refine lv_aload_n hx hb dL_law_756 rfl (lv_at hl 3 rfl) ?_
    refine lv_aload_n hx hb dL_law_757 rfl (lv_at hl 5 rfl) ?_
    refine lv_iload hx hb dL_law_758 (lv_at hl 1 rfl) ?_
    refine lv_iconst (v := 1) hx hb dL_law_760 (by decide) ?_
    refine lv_iadd hx hb dL_law_761 ?_
    refine lv_cst (y := nI (i + 1)) (nI_add i 1) ?_
    refine s_ld hx hb hX hbl hbA hS (j := i + 1) (by omega) hN dL_law_762 ?_
    refine lv_cst (y := nI t) ev ?_
    refine wcV_i (As := [.int (nI t)]) (rest := []) ⟨hx, hb, hml, hown, hts⟩ (w_M_setsWith l (P_r hP) htc hnc hac (D_r hD) (t := t) ht) (cwV 1 hts gL_law_X1_setsWith rfl rfl rfl hdX1_setsWith ⟨Nat.le_of_ble_eq_true rfl, Nat.le_of_ble_eq_true rfl⟩) (va_recv hK hP (ci := 1) (q0 := 8) rfl rfl) hK2 hS (fr_r hD hS hA) rfl hl.1 (Nat.le_of_ble_eq_true rfl) rfl dL_law_763 ⟨by show _ ≤ 621274; omega, by show _ ≤ 7232283; omega⟩ (fun H1 locs hP1 hz1 hk1 hS => ?_)
    have hP : va_P D vwCl ((wX cI cZ q tc nc ac ch U Z B L F ++ [(o, .inl (cJ, 1, .inr (.inl (vp_updL f 0 (nI (mt U Z nc (pw tc) ((1 : Int32) <<< (nI t &&& 31)))).toInt64))))]) ++ wM cI cZ r 0 tc nc ac ch V Y B L F) H1 := up_r hP hD hk1 hP1
    have hD : va_D (lA s) ((wX cI cZ q tc nc ac ch U Z B L F ++ [(o, .inl (cJ, 1, .inr (.inl (vp_updL f 0 (nI (mt U Z nc (pw tc) ((1 : Int32) <<< (nI t &&& 31)))).toInt64))))]) ++ wM cI cZ r 0 tc nc ac ch V Y B L F) := va_D_re hD rfl
    clear hP1 hk1 hz1
    generalize H1 = H at hP hS ⊢
    refine lv_cst (y := nI (mt U Z nc (pw tc) ((1 : Int32) <<< (nI t &&& 31)))) (congrArg nI (st_eq hu hz (by omega : t < 32) (pw tc))) ?_
    refine lv_istore (lv' := [(6, .int (nI (mt U Z nc (pw tc) ((1 : Int32) <<< (nI t &&& 31))))), (5, .int 0), (4, .int (nI i)), (3, .ref o), (2, .ref (r 0)), (1, .ref (q 0)), (0, .ref b)]) hx hb dL_law_766 hl (by decide) rfl (fun ls hl => ?_)
    refine lv_aload_n hx hb dL_law_768 rfl (lv_at hl 4 rfl) ?_
    refine pcV_i (As := []) (rest := []) ⟨hx, hb, hml, hown, hts⟩ (g_M_thrown l (P_r hP) htc hnc hac) (cwV 0 hts gL_law_X1_thrown rfl rfl rfl hdX1_thrown ⟨Nat.le_of_ble_eq_true rfl, Nat.le_of_ble_eq_true rfl⟩) (va_recv hK hP (ci := 1) (q0 := 8) rfl rfl) hK2 rfl hl.1 (Nat.le_of_ble_eq_true rfl) rfl dL_law_769 ⟨by show _ ≤ 621274; omega, by show _ ≤ 7232283; omega⟩ ?_
    refine lv_iload hx hb dL_law_772 (lv_at hl 1 rfl) ?_
    refine lv_ieq (tgt := 779) hx hb rfl dL_law_774 (by decide) ?_
    refine lv_iload hx hb dL_law_779 (lv_at hl 1 rfl) ?_
    refine lv_if_ne (tgt := 796) hx hb dL_law_781 (by decide) (fun h0 => absurd rfl h0) (fun _ => ?_)
    refine lv_aload_n hx hb dL_law_784 rfl (lv_at hl 3 rfl) ?_
    refine lv_iconst (v := 0) hx hb dL_law_785 (by decide) ?_
    refine ll_ld hx hb hK hP 7 2 rfl rfl dL_law_786 ?_
    refine lv_iload hx hb dL_law_787 (lv_at hl 0 rfl) ?_
    refine lv_i2l (v := (nI (mt U Z nc (pw tc) ((1 : Int32) <<< (nI t &&& 31)))).toInt64) hx hb dL_law_789 rfl ?_
    refine lv_leq (tgt := 796) hx hb rfl dL_law_790 dL_law_791 (by decide) ?_
    refine lv_goto (tgt := 1543) hx hb dL_law_796 (by decide) ?_
    refine W.widen (k := cells + 9) (n := slots + 58) (by omega) (by omega) ?_
    exact kk _ _ _ ⟨0, tc, nc, ac, ch, U, Z, V, Y, B, L, F, (vp_updL f 0 (nI (mt U Z nc (pw tc) ((1 : Int32) <<< (nI t &&& 31)))).toInt64), hS, hP, hD, htc, hnc, hac, hu, hz, hB, hB0, lv_sub hl [2, 3, 4, 5, 6] rfl⟩
set_option maxHeartbeats 4000000 in
set_option maxRecDepth 100000 in
theorem lc_nights (l : Launch) {p : Program} {e : Env} {s : State} {m : MethodId} {below : List Frame} {meth : Method} {c : Code} {b N : Nat} {xs : Nat → Int32} {D : va_G} {cI cZ cJ : ClassId} {q r : Nat → Nat} {o i : Nat} {H : Heap} {locs : List Loc} {ls : Array Slot} {cells slots : Nat} {Q : State → Prop} (C : LCtx l p s m c b N xs D cI cZ cJ) (h : LStt s D cI cZ cJ q r o b i H locs ls) (hi : i + 2 < N) (hcl : cells + 9 ≤ 621274) (hsl : slots + 58 ≤ 7232283) (kk : ∀ (H : Heap) (locs : List Loc) (ls : Array Slot), LStt s D cI cZ cJ q r o b i H locs ls → W p l e room_1 s m #[Value.ref b] below meth c H locs (cells + 9) (slots + 58) Q (F0 m 1543 ls [])) : W p l e room_1 s m #[Value.ref b] below meth c H locs cells slots Q (F0 m 799 ls []) := by
  obtain ⟨hx, hb, hml, hown, hts, hX, hbl, hN, hl0, hK, hE0⟩ := C
  obtain ⟨th, tc, nc, ac, ch, U, Z, V, Y, B, L, F, f, hS, hP, hD, htc, hnc, hac, hu, hz, hB, hB0, hl⟩ := h
  have hK2 : va_K D vwCl (tyA cI cZ) s := hK.sub [0, 1] rfl
  have hA : ∀ q : Nat, s.heap.size ≤ q → lA s q := fun _ h => h
  have hbA : ¬ lA s b := Nat.not_le.mpr hbl
  have hpw := pw_in htc
  refine lv_aload_n hx hb dL_law_799 rfl (lv_at hl 3 rfl) ?_
  refine pcV_i (As := []) (rest := []) ⟨hx, hb, hml, hown, hts⟩ (g_X_nights l (P_l (P_l hP)) htc hnc hac ) (cwV 0 hts gL_law_X0_nights rfl rfl rfl hdX0_nights ⟨Nat.le_of_ble_eq_true rfl, Nat.le_of_ble_eq_true rfl⟩) (va_recv hK hP (ci := 0) (q0 := 0) rfl rfl) hK2 rfl hl.1 (Nat.le_of_ble_eq_true rfl) rfl dL_law_800 ⟨by show _ ≤ 621274; omega, by show _ ≤ 7232283; omega⟩ ?_
  refine lv_aload_n hx hb dL_law_803 rfl (lv_at hl 2 rfl) ?_
  refine wcV_i (As := []) (rest := [.int (nI nc)]) ⟨hx, hb, hml, hown, hts⟩ (w_M_nights l (P_r hP) htc hnc hac (D_r hD)  ) (cwV 0 hts gL_law_X1_nights rfl rfl rfl hdX1_nights ⟨Nat.le_of_ble_eq_true rfl, Nat.le_of_ble_eq_true rfl⟩) (va_recv hK hP (ci := 1) (q0 := 8) rfl rfl) hK2 hS (fr_r hD hS hA) rfl hl.1 (Nat.le_of_ble_eq_true rfl) rfl dL_law_804 ⟨by show _ ≤ 621274; omega, by show _ ≤ 7232283; omega⟩ (fun H1 locs hP1 hz1 hk1 hS => ?_)
  have hP : va_P D vwCl ((wX cI cZ q tc nc ac ch U Z B L F ++ [(o, .inl (cJ, 1, .inr (.inl f)))]) ++ wM cI cZ r 0 tc nc ac ch V Y B L F) H1 := up_r hP hD hk1 hP1
  have hD : va_D (lA s) ((wX cI cZ q tc nc ac ch U Z B L F ++ [(o, .inl (cJ, 1, .inr (.inl f)))]) ++ wM cI cZ r 0 tc nc ac ch V Y B L F) := va_D_re hD rfl
  clear hP1 hk1 hz1
  generalize H1 = H at hP hS ⊢
  refine lv_ieq (tgt := 1543) hx hb rfl dL_law_807 (by decide) ?_
  refine W.widen (k := cells + 9) (n := slots + 58) (by omega) (by omega) ?_
  exact kk _ _ _ ⟨0, tc, nc, ac, ch, U, Z, V, Y, B, L, F, f, hS, hP, hD, htc, hnc, hac, hu, hz, hB, hB0, lv_sub hl [0, 1, 2, 3, 4] rfl⟩
set_option maxHeartbeats 4000000 in
set_option maxRecDepth 100000 in
theorem lc_smudges (l : Launch) {p : Program} {e : Env} {s : State} {m : MethodId} {below : List Frame} {meth : Method} {c : Code} {b N : Nat} {xs : Nat → Int32} {D : va_G} {cI cZ cJ : ClassId} {q r : Nat → Nat} {o i : Nat} {H : Heap} {locs : List Loc} {ls : Array Slot} {cells slots : Nat} {Q : State → Prop} (C : LCtx l p s m c b N xs D cI cZ cJ) (h : LStt s D cI cZ cJ q r o b i H locs ls) (hi : i + 2 < N) (hcl : cells + 9 ≤ 621274) (hsl : slots + 58 ≤ 7232283) (kk : ∀ (H : Heap) (locs : List Loc) (ls : Array Slot), LStt s D cI cZ cJ q r o b i H locs ls → W p l e room_1 s m #[Value.ref b] below meth c H locs (cells + 9) (slots + 58) Q (F0 m 1543 ls [])) : W p l e room_1 s m #[Value.ref b] below meth c H locs cells slots Q (F0 m 812 ls []) := by
  obtain ⟨hx, hb, hml, hown, hts, hX, hbl, hN, hl0, hK, hE0⟩ := C
  obtain ⟨th, tc, nc, ac, ch, U, Z, V, Y, B, L, F, f, hS, hP, hD, htc, hnc, hac, hu, hz, hB, hB0, hl⟩ := h
  have hK2 : va_K D vwCl (tyA cI cZ) s := hK.sub [0, 1] rfl
  have hA : ∀ q : Nat, s.heap.size ≤ q → lA s q := fun _ h => h
  have hbA : ¬ lA s b := Nat.not_le.mpr hbl
  have hpw := pw_in htc
  refine lv_aload_n hx hb dL_law_812 rfl (lv_at hl 3 rfl) ?_
  refine pcV_i (As := []) (rest := []) ⟨hx, hb, hml, hown, hts⟩ (g_X_smudges l (P_l (P_l hP)) htc hnc hac ) (cwV 0 hts gL_law_X0_smudges rfl rfl rfl hdX0_smudges ⟨Nat.le_of_ble_eq_true rfl, Nat.le_of_ble_eq_true rfl⟩) (va_recv hK hP (ci := 0) (q0 := 0) rfl rfl) hK2 rfl hl.1 (Nat.le_of_ble_eq_true rfl) rfl dL_law_813 ⟨by show _ ≤ 621274; omega, by show _ ≤ 7232283; omega⟩ ?_
  refine lv_aload_n hx hb dL_law_816 rfl (lv_at hl 2 rfl) ?_
  refine wcV_i (As := []) (rest := [.int (nI (ct Z nc))]) ⟨hx, hb, hml, hown, hts⟩ (w_M_smudges l (P_r hP) htc hnc hac (D_r hD)  ) (cwV 0 hts gL_law_X1_smudges rfl rfl rfl hdX1_smudges ⟨Nat.le_of_ble_eq_true rfl, Nat.le_of_ble_eq_true rfl⟩) (va_recv hK hP (ci := 1) (q0 := 8) rfl rfl) hK2 hS (fr_r hD hS hA) rfl hl.1 (Nat.le_of_ble_eq_true rfl) rfl dL_law_817 ⟨by show _ ≤ 621274; omega, by show _ ≤ 7232283; omega⟩ (fun H1 locs hP1 hz1 hk1 hS => ?_)
  have hP : va_P D vwCl ((wX cI cZ q tc nc ac ch U Z B L F ++ [(o, .inl (cJ, 1, .inr (.inl f)))]) ++ wM cI cZ r 0 tc nc ac ch V Y B L F) H1 := up_r hP hD hk1 hP1
  have hD : va_D (lA s) ((wX cI cZ q tc nc ac ch U Z B L F ++ [(o, .inl (cJ, 1, .inr (.inl f)))]) ++ wM cI cZ r 0 tc nc ac ch V Y B L F) := va_D_re hD rfl
  clear hP1 hk1 hz1
  generalize H1 = H at hP hS ⊢
  refine lv_cst (y := nI (ct Z nc)) (congrArg nI (ct_cong nc hz)) ?_
  refine lv_ieq (tgt := 1543) hx hb rfl dL_law_820 (by decide) ?_
  refine W.widen (k := cells + 9) (n := slots + 58) (by omega) (by omega) ?_
  exact kk _ _ _ ⟨0, tc, nc, ac, ch, U, Z, V, Y, B, L, F, f, hS, hP, hD, htc, hnc, hac, hu, hz, hB, hB0, lv_sub hl [0, 1, 2, 3, 4] rfl⟩
set_option maxHeartbeats 4000000 in
set_option maxRecDepth 100000 in
theorem lc_usedIn (l : Launch) {p : Program} {e : Env} {s : State} {m : MethodId} {below : List Frame} {meth : Method} {c : Code} {b N : Nat} {xs : Nat → Int32} {D : va_G} {cI cZ cJ : ClassId} {q r : Nat → Nat} {o i : Nat} {H : Heap} {locs : List Loc} {ls : Array Slot} {cells slots : Nat} {Q : State → Prop} (C : LCtx l p s m c b N xs D cI cZ cJ) (h : LStt s D cI cZ cJ q r o b i H locs ls) (hi : i + 2 < N) (hcl : cells + 9 ≤ 621274) (hsl : slots + 58 ≤ 7232283) (kk : ∀ (H : Heap) (locs : List Loc) (ls : Array Slot), LStt s D cI cZ cJ q r o b i H locs ls → W p l e room_1 s m #[Value.ref b] below meth c H locs (cells + 9) (slots + 58) Q (F0 m 1543 ls [])) : W p l e room_1 s m #[Value.ref b] below meth c H locs cells slots Q (F0 m 825 ls []) := by
  obtain ⟨hx, hb, hml, hown, hts, hX, hbl, hN, hl0, hK, hE0⟩ := C
  obtain ⟨th, tc, nc, ac, ch, U, Z, V, Y, B, L, F, f, hS, hP, hD, htc, hnc, hac, hu, hz, hB, hB0, hl⟩ := h
  have hK2 : va_K D vwCl (tyA cI cZ) s := hK.sub [0, 1] rfl
  have hA : ∀ q : Nat, s.heap.size ≤ q → lA s q := fun _ h => h
  have hbA : ¬ lA s b := Nat.not_le.mpr hbl
  have hpw := pw_in htc
  rcases ar_th (xs (i + 1)) nc with hv | ⟨t, ht, ev⟩
  · skip
    refine lv_aload_n hx hb dL_law_825 rfl (lv_at hl 3 rfl) ?_
    refine lv_aload_n hx hb dL_law_826 rfl (lv_at hl 4 rfl) ?_
    refine lv_iload hx hb dL_law_827 (lv_at hl 0 rfl) ?_
    refine lv_iconst (v := 1) hx hb dL_law_829 (by decide) ?_
    refine lv_iadd hx hb dL_law_830 ?_
    refine lv_cst (y := nI (i + 1)) (nI_add i 1) ?_
    refine s_ld hx hb hX hbl hbA hS (j := i + 1) (by omega) hN dL_law_831 ?_
    refine lv_aload_n hx hb dL_law_832 rfl (lv_at hl 1 rfl) ?_
    refine sc_b (k := 1) (As := [.ref (q 0), .int (xs (i + 1)), .ref o]) (rest := []) ⟨hx, hb, hml, hown, hts⟩ (wx_L_usedIn l hl0 (P_l hP) htc hnc hac (v := xs (i + 1)) hv) (vx_cwSW 3 hts gL_law_L_usedIn rfl rfl rfl hdL_usedIn ⟨Nat.le_of_ble_eq_true rfl, Nat.le_of_ble_eq_true rfl⟩) hK (xE_law hE0 hS) hS rfl hl.1 (Nat.le_of_ble_eq_true rfl) rfl dL_law_833 ⟨by show _ ≤ 621274; omega, by show _ ≤ 7232283; omega⟩ (fun H1 locs hz1 hk1 hS => ?_)
    have hP : va_P D vwCl ((wX cI cZ q tc nc ac ch U Z B L F ++ [(o, .inl (cJ, 1, .inr (.inl f)))]) ++ wM cI cZ r th tc nc ac ch V Y B L F) H1 := grow_P hP hk1
    clear hk1 hz1
    generalize H1 = H at hP hS ⊢
    refine lv_istore (lv' := [(5, .int 1), (4, .int (nI i)), (3, .ref o), (2, .ref (r 0)), (1, .ref (q 0)), (0, .ref b)]) hx hb dL_law_836 hl (by decide) rfl (fun ls hl => ?_)
    refine lv_aload_n hx hb dL_law_838 rfl (lv_at hl 3 rfl) ?_
    refine lv_aload_n hx hb dL_law_839 rfl (lv_at hl 5 rfl) ?_
    refine lv_iload hx hb dL_law_840 (lv_at hl 1 rfl) ?_
    refine lv_iconst (v := 1) hx hb dL_law_842 (by decide) ?_
    refine lv_iadd hx hb dL_law_843 ?_
    refine lv_cst (y := nI (i + 1)) (nI_add i 1) ?_
    refine s_ld hx hb hX hbl hbA hS (j := i + 1) (by omega) hN dL_law_844 ?_
    refine wcV_i (As := [.int (xs (i + 1))]) (rest := []) ⟨hx, hb, hml, hown, hts⟩ (wb_M_usedIn l (P_r hP) htc hnc hac (D_r hD) (v := xs (i + 1)) hv) (cwV 1 hts gL_law_X1_usedIn rfl rfl rfl hdX1_usedIn ⟨Nat.le_of_ble_eq_true rfl, Nat.le_of_ble_eq_true rfl⟩) (va_recv hK hP (ci := 1) (q0 := 8) rfl rfl) hK2 hS (fr_r hD hS hA) rfl hl.1 (Nat.le_of_ble_eq_true rfl) rfl dL_law_845 ⟨by show _ ≤ 621274; omega, by show _ ≤ 7232283; omega⟩ (fun H1 locs hP1 hz1 hk1 hS => ?_)
    have hP : va_P D vwCl ((wX cI cZ q tc nc ac ch U Z B L F ++ [(o, .inl (cJ, 1, .inr (.inl f)))]) ++ wM cI cZ r 1 tc nc ac ch V Y B L F) H1 := up_r hP hD hk1 hP1
    have hD : va_D (lA s) ((wX cI cZ q tc nc ac ch U Z B L F ++ [(o, .inl (cJ, 1, .inr (.inl f)))]) ++ wM cI cZ r 1 tc nc ac ch V Y B L F) := va_D_re hD rfl
    clear hP1 hk1 hz1
    generalize H1 = H at hP hS ⊢
    refine lv_istore (lv' := [(6, .int 0), (5, .int 1), (4, .int (nI i)), (3, .ref o), (2, .ref (r 0)), (1, .ref (q 0)), (0, .ref b)]) hx hb dL_law_848 hl (by decide) rfl (fun ls hl => ?_)
    refine lv_aload_n hx hb dL_law_850 rfl (lv_at hl 4 rfl) ?_
    refine pcV_i (As := []) (rest := []) ⟨hx, hb, hml, hown, hts⟩ (g_M_thrown l (P_r hP) htc hnc hac) (cwV 0 hts gL_law_X1_thrown rfl rfl rfl hdX1_thrown ⟨Nat.le_of_ble_eq_true rfl, Nat.le_of_ble_eq_true rfl⟩) (va_recv hK hP (ci := 1) (q0 := 8) rfl rfl) hK2 rfl hl.1 (Nat.le_of_ble_eq_true rfl) rfl dL_law_851 ⟨by show _ ≤ 621274; omega, by show _ ≤ 7232283; omega⟩ ?_
    refine lv_iload hx hb dL_law_854 (lv_at hl 1 rfl) ?_
    refine lv_ieq (tgt := 861) hx hb rfl dL_law_856 (by decide) ?_
    refine lv_iload hx hb dL_law_861 (lv_at hl 1 rfl) ?_
    refine lv_if_ne (tgt := 878) hx hb dL_law_863 (by decide) (fun _ => ?_) (fun h0 => absurd h0 (by decide))
    refine lv_goto (tgt := 1543) hx hb dL_law_878 (by decide) ?_
    refine W.widen (k := cells + 9) (n := slots + 58) (by omega) (by omega) ?_
    exact kk _ _ _ ⟨1, tc, nc, ac, ch, U, Z, V, Y, B, L, F, f, hS, hP, hD, htc, hnc, hac, hu, hz, hB, hB0, lv_sub hl [2, 3, 4, 5, 6] rfl⟩
  · skip
    refine lv_aload_n hx hb dL_law_825 rfl (lv_at hl 3 rfl) ?_
    refine lv_aload_n hx hb dL_law_826 rfl (lv_at hl 4 rfl) ?_
    refine lv_iload hx hb dL_law_827 (lv_at hl 0 rfl) ?_
    refine lv_iconst (v := 1) hx hb dL_law_829 (by decide) ?_
    refine lv_iadd hx hb dL_law_830 ?_
    refine lv_cst (y := nI (i + 1)) (nI_add i 1) ?_
    refine s_ld hx hb hX hbl hbA hS (j := i + 1) (by omega) hN dL_law_831 ?_
    refine lv_cst (y := nI t) ev ?_
    refine lv_aload_n hx hb dL_law_832 rfl (lv_at hl 1 rfl) ?_
    refine sc_g (As := [.ref (q 0), .int (nI t), .ref o]) (rest := []) ⟨hx, hb, hml, hown, hts⟩ (w_L_usedIn l (P_l hP) htc hnc hac (D_l hD) (t := t) ht) (vx_cwSW 3 hts gL_law_L_usedIn rfl rfl rfl hdL_usedIn ⟨Nat.le_of_ble_eq_true rfl, Nat.le_of_ble_eq_true rfl⟩) hK hS (fr_l hD hS hA) rfl hl.1 (Nat.le_of_ble_eq_true rfl) rfl dL_law_833 ⟨by show _ ≤ 621274; omega, by show _ ≤ 7232283; omega⟩ (fun H1 locs hP1 hz1 hk1 hS => ?_)
    have hP : va_P D vwCl ((wX cI cZ q tc nc ac ch U Z B L F ++ [(o, .inl (cJ, 1, .inr (.inl (vp_updL f 0 (U t).toInt64))))]) ++ wM cI cZ r th tc nc ac ch V Y B L F) H1 := up_l hP hD hk1 hP1
    have hD : va_D (lA s) ((wX cI cZ q tc nc ac ch U Z B L F ++ [(o, .inl (cJ, 1, .inr (.inl (vp_updL f 0 (U t).toInt64))))]) ++ wM cI cZ r th tc nc ac ch V Y B L F) := va_D_re hD rfl
    clear hP1 hk1 hz1
    generalize H1 = H at hP hS ⊢
    refine lv_istore (lv' := [(5, .int 0), (4, .int (nI i)), (3, .ref o), (2, .ref (r 0)), (1, .ref (q 0)), (0, .ref b)]) hx hb dL_law_836 hl (by decide) rfl (fun ls hl => ?_)
    refine lv_aload_n hx hb dL_law_838 rfl (lv_at hl 3 rfl) ?_
    refine lv_aload_n hx hb dL_law_839 rfl (lv_at hl 5 rfl) ?_
    refine lv_iload hx hb dL_law_840 (lv_at hl 1 rfl) ?_
    refine lv_iconst (v := 1) hx hb dL_law_842 (by decide) ?_
    refine lv_iadd hx hb dL_law_843 ?_
    refine lv_cst (y := nI (i + 1)) (nI_add i 1) ?_
    refine s_ld hx hb hX hbl hbA hS (j := i + 1) (by omega) hN dL_law_844 ?_
    refine lv_cst (y := nI t) ev ?_
    refine wcV_i (As := [.int (nI t)]) (rest := []) ⟨hx, hb, hml, hown, hts⟩ (w_M_usedIn l (P_r hP) htc hnc hac (D_r hD) (t := t) ht) (cwV 1 hts gL_law_X1_usedIn rfl rfl rfl hdX1_usedIn ⟨Nat.le_of_ble_eq_true rfl, Nat.le_of_ble_eq_true rfl⟩) (va_recv hK hP (ci := 1) (q0 := 8) rfl rfl) hK2 hS (fr_r hD hS hA) rfl hl.1 (Nat.le_of_ble_eq_true rfl) rfl dL_law_845 ⟨by show _ ≤ 621274; omega, by show _ ≤ 7232283; omega⟩ (fun H1 locs hP1 hz1 hk1 hS => ?_)
    have hP : va_P D vwCl ((wX cI cZ q tc nc ac ch U Z B L F ++ [(o, .inl (cJ, 1, .inr (.inl (vp_updL f 0 (U t).toInt64))))]) ++ wM cI cZ r 0 tc nc ac ch V Y B L F) H1 := up_r hP hD hk1 hP1
    have hD : va_D (lA s) ((wX cI cZ q tc nc ac ch U Z B L F ++ [(o, .inl (cJ, 1, .inr (.inl (vp_updL f 0 (U t).toInt64))))]) ++ wM cI cZ r 0 tc nc ac ch V Y B L F) := va_D_re hD rfl
    clear hP1 hk1 hz1
    generalize H1 = H at hP hS ⊢
    refine lv_cst (y := U t) (hu t ht) ?_
    refine lv_istore (lv' := [(6, .int (U t)), (5, .int 0), (4, .int (nI i)), (3, .ref o), (2, .ref (r 0)), (1, .ref (q 0)), (0, .ref b)]) hx hb dL_law_848 hl (by decide) rfl (fun ls hl => ?_)
    refine lv_aload_n hx hb dL_law_850 rfl (lv_at hl 4 rfl) ?_
    refine pcV_i (As := []) (rest := []) ⟨hx, hb, hml, hown, hts⟩ (g_M_thrown l (P_r hP) htc hnc hac) (cwV 0 hts gL_law_X1_thrown rfl rfl rfl hdX1_thrown ⟨Nat.le_of_ble_eq_true rfl, Nat.le_of_ble_eq_true rfl⟩) (va_recv hK hP (ci := 1) (q0 := 8) rfl rfl) hK2 rfl hl.1 (Nat.le_of_ble_eq_true rfl) rfl dL_law_851 ⟨by show _ ≤ 621274; omega, by show _ ≤ 7232283; omega⟩ ?_
    refine lv_iload hx hb dL_law_854 (lv_at hl 1 rfl) ?_
    refine lv_ieq (tgt := 861) hx hb rfl dL_law_856 (by decide) ?_
    refine lv_iload hx hb dL_law_861 (lv_at hl 1 rfl) ?_
    refine lv_if_ne (tgt := 878) hx hb dL_law_863 (by decide) (fun h0 => absurd rfl h0) (fun _ => ?_)
    refine lv_aload_n hx hb dL_law_866 rfl (lv_at hl 3 rfl) ?_
    refine lv_iconst (v := 0) hx hb dL_law_867 (by decide) ?_
    refine ll_ld hx hb hK hP 7 2 rfl rfl dL_law_868 ?_
    refine lv_iload hx hb dL_law_869 (lv_at hl 0 rfl) ?_
    refine lv_i2l (v := (U t).toInt64) hx hb dL_law_871 rfl ?_
    refine lv_leq (tgt := 878) hx hb rfl dL_law_872 dL_law_873 (by decide) ?_
    refine lv_goto (tgt := 1543) hx hb dL_law_878 (by decide) ?_
    refine W.widen (k := cells + 9) (n := slots + 58) (by omega) (by omega) ?_
    exact kk _ _ _ ⟨0, tc, nc, ac, ch, U, Z, V, Y, B, L, F, (vp_updL f 0 (U t).toInt64), hS, hP, hD, htc, hnc, hac, hu, hz, hB, hB0, lv_sub hl [2, 3, 4, 5, 6] rfl⟩
set_option maxHeartbeats 4000000 in
set_option maxRecDepth 100000 in
theorem lc_isSmudged (l : Launch) {p : Program} {e : Env} {s : State} {m : MethodId} {below : List Frame} {meth : Method} {c : Code} {b N : Nat} {xs : Nat → Int32} {D : va_G} {cI cZ cJ : ClassId} {q r : Nat → Nat} {o i : Nat} {H : Heap} {locs : List Loc} {ls : Array Slot} {cells slots : Nat} {Q : State → Prop} (C : LCtx l p s m c b N xs D cI cZ cJ) (h : LStt s D cI cZ cJ q r o b i H locs ls) (hi : i + 2 < N) (hcl : cells + 9 ≤ 621274) (hsl : slots + 58 ≤ 7232283) (kk : ∀ (H : Heap) (locs : List Loc) (ls : Array Slot), LStt s D cI cZ cJ q r o b i H locs ls → W p l e room_1 s m #[Value.ref b] below meth c H locs (cells + 9) (slots + 58) Q (F0 m 1543 ls [])) : W p l e room_1 s m #[Value.ref b] below meth c H locs cells slots Q (F0 m 881 ls []) := by
  obtain ⟨hx, hb, hml, hown, hts, hX, hbl, hN, hl0, hK, hE0⟩ := C
  obtain ⟨th, tc, nc, ac, ch, U, Z, V, Y, B, L, F, f, hS, hP, hD, htc, hnc, hac, hu, hz, hB, hB0, hl⟩ := h
  have hK2 : va_K D vwCl (tyA cI cZ) s := hK.sub [0, 1] rfl
  have hA : ∀ q : Nat, s.heap.size ≤ q → lA s q := fun _ h => h
  have hbA : ¬ lA s b := Nat.not_le.mpr hbl
  have hpw := pw_in htc
  rcases ar_th (xs (i + 1)) nc with hv | ⟨t, ht, ev⟩
  · skip
    refine lv_aload_n hx hb dL_law_881 rfl (lv_at hl 3 rfl) ?_
    refine lv_aload_n hx hb dL_law_882 rfl (lv_at hl 4 rfl) ?_
    refine lv_iload hx hb dL_law_883 (lv_at hl 0 rfl) ?_
    refine lv_iconst (v := 1) hx hb dL_law_885 (by decide) ?_
    refine lv_iadd hx hb dL_law_886 ?_
    refine lv_cst (y := nI (i + 1)) (nI_add i 1) ?_
    refine s_ld hx hb hX hbl hbA hS (j := i + 1) (by omega) hN dL_law_887 ?_
    refine lv_aload_n hx hb dL_law_888 rfl (lv_at hl 1 rfl) ?_
    refine sc_b (k := 1) (As := [.ref (q 0), .int (xs (i + 1)), .ref o]) (rest := []) ⟨hx, hb, hml, hown, hts⟩ (wx_L_isSmudged l hl0 (P_l hP) htc hnc hac (v := xs (i + 1)) hv) (vx_cwSW 3 hts gL_law_L_isSmudged rfl rfl rfl hdL_isSmudged ⟨Nat.le_of_ble_eq_true rfl, Nat.le_of_ble_eq_true rfl⟩) hK (xE_law hE0 hS) hS rfl hl.1 (Nat.le_of_ble_eq_true rfl) rfl dL_law_889 ⟨by show _ ≤ 621274; omega, by show _ ≤ 7232283; omega⟩ (fun H1 locs hz1 hk1 hS => ?_)
    have hP : va_P D vwCl ((wX cI cZ q tc nc ac ch U Z B L F ++ [(o, .inl (cJ, 1, .inr (.inl f)))]) ++ wM cI cZ r th tc nc ac ch V Y B L F) H1 := grow_P hP hk1
    clear hk1 hz1
    generalize H1 = H at hP hS ⊢
    refine lv_istore (lv' := [(5, .int 1), (4, .int (nI i)), (3, .ref o), (2, .ref (r 0)), (1, .ref (q 0)), (0, .ref b)]) hx hb dL_law_892 hl (by decide) rfl (fun ls hl => ?_)
    refine lv_aload_n hx hb dL_law_894 rfl (lv_at hl 3 rfl) ?_
    refine lv_aload_n hx hb dL_law_895 rfl (lv_at hl 5 rfl) ?_
    refine lv_iload hx hb dL_law_896 (lv_at hl 1 rfl) ?_
    refine lv_iconst (v := 1) hx hb dL_law_898 (by decide) ?_
    refine lv_iadd hx hb dL_law_899 ?_
    refine lv_cst (y := nI (i + 1)) (nI_add i 1) ?_
    refine s_ld hx hb hX hbl hbA hS (j := i + 1) (by omega) hN dL_law_900 ?_
    refine wcV_i (As := [.int (xs (i + 1))]) (rest := []) ⟨hx, hb, hml, hown, hts⟩ (wb_M_isSmudged l (P_r hP) htc hnc hac (D_r hD) (v := xs (i + 1)) hv) (cwV 1 hts gL_law_X1_isSmudged rfl rfl rfl hdX1_isSmudged ⟨Nat.le_of_ble_eq_true rfl, Nat.le_of_ble_eq_true rfl⟩) (va_recv hK hP (ci := 1) (q0 := 8) rfl rfl) hK2 hS (fr_r hD hS hA) rfl hl.1 (Nat.le_of_ble_eq_true rfl) rfl dL_law_901 ⟨by show _ ≤ 621274; omega, by show _ ≤ 7232283; omega⟩ (fun H1 locs hP1 hz1 hk1 hS => ?_)
    have hP : va_P D vwCl ((wX cI cZ q tc nc ac ch U Z B L F ++ [(o, .inl (cJ, 1, .inr (.inl f)))]) ++ wM cI cZ r 1 tc nc ac ch V Y B L F) H1 := up_r hP hD hk1 hP1
    have hD : va_D (lA s) ((wX cI cZ q tc nc ac ch U Z B L F ++ [(o, .inl (cJ, 1, .inr (.inl f)))]) ++ wM cI cZ r 1 tc nc ac ch V Y B L F) := va_D_re hD rfl
    clear hP1 hk1 hz1
    generalize H1 = H at hP hS ⊢
    refine lv_istore (lv' := [(6, .int 0), (5, .int 1), (4, .int (nI i)), (3, .ref o), (2, .ref (r 0)), (1, .ref (q 0)), (0, .ref b)]) hx hb dL_law_904 hl (by decide) rfl (fun ls hl => ?_)
    refine lv_aload_n hx hb dL_law_906 rfl (lv_at hl 4 rfl) ?_
    refine pcV_i (As := []) (rest := []) ⟨hx, hb, hml, hown, hts⟩ (g_M_thrown l (P_r hP) htc hnc hac) (cwV 0 hts gL_law_X1_thrown rfl rfl rfl hdX1_thrown ⟨Nat.le_of_ble_eq_true rfl, Nat.le_of_ble_eq_true rfl⟩) (va_recv hK hP (ci := 1) (q0 := 8) rfl rfl) hK2 rfl hl.1 (Nat.le_of_ble_eq_true rfl) rfl dL_law_907 ⟨by show _ ≤ 621274; omega, by show _ ≤ 7232283; omega⟩ ?_
    refine lv_iload hx hb dL_law_910 (lv_at hl 1 rfl) ?_
    refine lv_ieq (tgt := 917) hx hb rfl dL_law_912 (by decide) ?_
    refine lv_iload hx hb dL_law_917 (lv_at hl 1 rfl) ?_
    refine lv_if_ne (tgt := 941) hx hb dL_law_919 (by decide) (fun _ => ?_) (fun h0 => absurd h0 (by decide))
    refine lv_goto (tgt := 1543) hx hb dL_law_941 (by decide) ?_
    refine W.widen (k := cells + 9) (n := slots + 58) (by omega) (by omega) ?_
    exact kk _ _ _ ⟨1, tc, nc, ac, ch, U, Z, V, Y, B, L, F, f, hS, hP, hD, htc, hnc, hac, hu, hz, hB, hB0, lv_sub hl [2, 3, 4, 5, 6] rfl⟩
  · skip
    refine lv_aload_n hx hb dL_law_881 rfl (lv_at hl 3 rfl) ?_
    refine lv_aload_n hx hb dL_law_882 rfl (lv_at hl 4 rfl) ?_
    refine lv_iload hx hb dL_law_883 (lv_at hl 0 rfl) ?_
    refine lv_iconst (v := 1) hx hb dL_law_885 (by decide) ?_
    refine lv_iadd hx hb dL_law_886 ?_
    refine lv_cst (y := nI (i + 1)) (nI_add i 1) ?_
    refine s_ld hx hb hX hbl hbA hS (j := i + 1) (by omega) hN dL_law_887 ?_
    refine lv_cst (y := nI t) ev ?_
    refine lv_aload_n hx hb dL_law_888 rfl (lv_at hl 1 rfl) ?_
    refine sc_g (As := [.ref (q 0), .int (nI t), .ref o]) (rest := []) ⟨hx, hb, hml, hown, hts⟩ (w_L_isSmudged l (P_l hP) htc hnc hac (D_l hD) (t := t) ht) (vx_cwSW 3 hts gL_law_L_isSmudged rfl rfl rfl hdL_isSmudged ⟨Nat.le_of_ble_eq_true rfl, Nat.le_of_ble_eq_true rfl⟩) hK hS (fr_l hD hS hA) rfl hl.1 (Nat.le_of_ble_eq_true rfl) rfl dL_law_889 ⟨by show _ ≤ 621274; omega, by show _ ≤ 7232283; omega⟩ (fun H1 locs hP1 hz1 hk1 hS => ?_)
    have hP : va_P D vwCl ((wX cI cZ q tc nc ac ch U Z B L F ++ [(o, .inl (cJ, 1, .inr (.inl (vp_updL f 0 (bI (Z t)).toInt64))))]) ++ wM cI cZ r th tc nc ac ch V Y B L F) H1 := up_l hP hD hk1 hP1
    have hD : va_D (lA s) ((wX cI cZ q tc nc ac ch U Z B L F ++ [(o, .inl (cJ, 1, .inr (.inl (vp_updL f 0 (bI (Z t)).toInt64))))]) ++ wM cI cZ r th tc nc ac ch V Y B L F) := va_D_re hD rfl
    clear hP1 hk1 hz1
    generalize H1 = H at hP hS ⊢
    refine lv_istore (lv' := [(5, .int 0), (4, .int (nI i)), (3, .ref o), (2, .ref (r 0)), (1, .ref (q 0)), (0, .ref b)]) hx hb dL_law_892 hl (by decide) rfl (fun ls hl => ?_)
    refine lv_aload_n hx hb dL_law_894 rfl (lv_at hl 3 rfl) ?_
    refine lv_aload_n hx hb dL_law_895 rfl (lv_at hl 5 rfl) ?_
    refine lv_iload hx hb dL_law_896 (lv_at hl 1 rfl) ?_
    refine lv_iconst (v := 1) hx hb dL_law_898 (by decide) ?_
    refine lv_iadd hx hb dL_law_899 ?_
    refine lv_cst (y := nI (i + 1)) (nI_add i 1) ?_
    refine s_ld hx hb hX hbl hbA hS (j := i + 1) (by omega) hN dL_law_900 ?_
    refine lv_cst (y := nI t) ev ?_
    refine wcV_i (As := [.int (nI t)]) (rest := []) ⟨hx, hb, hml, hown, hts⟩ (w_M_isSmudged l (P_r hP) htc hnc hac (D_r hD) (t := t) ht) (cwV 1 hts gL_law_X1_isSmudged rfl rfl rfl hdX1_isSmudged ⟨Nat.le_of_ble_eq_true rfl, Nat.le_of_ble_eq_true rfl⟩) (va_recv hK hP (ci := 1) (q0 := 8) rfl rfl) hK2 hS (fr_r hD hS hA) rfl hl.1 (Nat.le_of_ble_eq_true rfl) rfl dL_law_901 ⟨by show _ ≤ 621274; omega, by show _ ≤ 7232283; omega⟩ (fun H1 locs hP1 hz1 hk1 hS => ?_)
    have hP : va_P D vwCl ((wX cI cZ q tc nc ac ch U Z B L F ++ [(o, .inl (cJ, 1, .inr (.inl (vp_updL f 0 (bI (Z t)).toInt64))))]) ++ wM cI cZ r 0 tc nc ac ch V Y B L F) H1 := up_r hP hD hk1 hP1
    have hD : va_D (lA s) ((wX cI cZ q tc nc ac ch U Z B L F ++ [(o, .inl (cJ, 1, .inr (.inl (vp_updL f 0 (bI (Z t)).toInt64))))]) ++ wM cI cZ r 0 tc nc ac ch V Y B L F) := va_D_re hD rfl
    clear hP1 hk1 hz1
    generalize H1 = H at hP hS ⊢
    refine lv_cst (y := bI (Z t)) (congrArg bI (hz t ht)) ?_
    refine lv_istore (lv' := [(6, .int (bI (Z t))), (5, .int 0), (4, .int (nI i)), (3, .ref o), (2, .ref (r 0)), (1, .ref (q 0)), (0, .ref b)]) hx hb dL_law_904 hl (by decide) rfl (fun ls hl => ?_)
    refine lv_aload_n hx hb dL_law_906 rfl (lv_at hl 4 rfl) ?_
    refine pcV_i (As := []) (rest := []) ⟨hx, hb, hml, hown, hts⟩ (g_M_thrown l (P_r hP) htc hnc hac) (cwV 0 hts gL_law_X1_thrown rfl rfl rfl hdX1_thrown ⟨Nat.le_of_ble_eq_true rfl, Nat.le_of_ble_eq_true rfl⟩) (va_recv hK hP (ci := 1) (q0 := 8) rfl rfl) hK2 rfl hl.1 (Nat.le_of_ble_eq_true rfl) rfl dL_law_907 ⟨by show _ ≤ 621274; omega, by show _ ≤ 7232283; omega⟩ ?_
    refine lv_iload hx hb dL_law_910 (lv_at hl 1 rfl) ?_
    refine lv_ieq (tgt := 917) hx hb rfl dL_law_912 (by decide) ?_
    refine lv_iload hx hb dL_law_917 (lv_at hl 1 rfl) ?_
    refine lv_if_ne (tgt := 941) hx hb dL_law_919 (by decide) (fun h0 => absurd rfl h0) (fun _ => ?_)
    refine lv_aload_n hx hb dL_law_922 rfl (lv_at hl 3 rfl) ?_
    refine lv_iconst (v := 0) hx hb dL_law_923 (by decide) ?_
    refine ll_ld hx hb hK hP 7 2 rfl rfl dL_law_924 ?_
    refine lv_iload hx hb dL_law_925 (lv_at hl 0 rfl) ?_
    refine lv_bl (t0 := 934) hx hb dL_law_927 dL_law_930 dL_law_931 dL_law_934 (by decide) (by decide) ?_
    refine lv_leq (tgt := 941) hx hb rfl dL_law_935 dL_law_936 (by decide) ?_
    refine lv_goto (tgt := 1543) hx hb dL_law_941 (by decide) ?_
    refine W.widen (k := cells + 9) (n := slots + 58) (by omega) (by omega) ?_
    exact kk _ _ _ ⟨0, tc, nc, ac, ch, U, Z, V, Y, B, L, F, (vp_updL f 0 (bI (Z t)).toInt64), hS, hP, hD, htc, hnc, hac, hu, hz, hB, hB0, lv_sub hl [2, 3, 4, 5, 6] rfl⟩
set_option maxHeartbeats 4000000 in
set_option maxRecDepth 100000 in
theorem lc_agree (l : Launch) {p : Program} {e : Env} {s : State} {m : MethodId} {below : List Frame} {meth : Method} {c : Code} {b N : Nat} {xs : Nat → Int32} {D : va_G} {cI cZ cJ : ClassId} {q r : Nat → Nat} {o i : Nat} {H : Heap} {locs : List Loc} {ls : Array Slot} {cells slots : Nat} {Q : State → Prop} (C : LCtx l p s m c b N xs D cI cZ cJ) (h : LStt s D cI cZ cJ q r o b i H locs ls) (hi : i + 2 < N) (hcl : cells + 9 ≤ 621274) (hsl : slots + 58 ≤ 7232283) (kk : ∀ (H : Heap) (locs : List Loc) (ls : Array Slot), LStt s D cI cZ cJ q r o b i H locs ls → W p l e room_1 s m #[Value.ref b] below meth c H locs (cells + 9) (slots + 58) Q (F0 m 1543 ls [])) : W p l e room_1 s m #[Value.ref b] below meth c H locs cells slots Q (F0 m 944 ls []) := by
  obtain ⟨hx, hb, hml, hown, hts, hX, hbl, hN, hl0, hK, hE0⟩ := C
  obtain ⟨th, tc, nc, ac, ch, U, Z, V, Y, B, L, F, f, hS, hP, hD, htc, hnc, hac, hu, hz, hB, hB0, hl⟩ := h
  have hK2 : va_K D vwCl (tyA cI cZ) s := hK.sub [0, 1] rfl
  have hA : ∀ q : Nat, s.heap.size ≤ q → lA s q := fun _ h => h
  have hbA : ¬ lA s b := Nat.not_le.mpr hbl
  have hpw := pw_in htc
  refine lv_aload_n hx hb dL_law_944 rfl (lv_at hl 3 rfl) ?_
  refine pcV_i (As := []) (rest := []) ⟨hx, hb, hml, hown, hts⟩ (g_X_agree l (P_l (P_l hP)) htc hnc hac ) (cwV 0 hts gL_law_X0_agree rfl rfl rfl hdX0_agree ⟨Nat.le_of_ble_eq_true rfl, Nat.le_of_ble_eq_true rfl⟩) (va_recv hK hP (ci := 0) (q0 := 0) rfl rfl) hK2 rfl hl.1 (Nat.le_of_ble_eq_true rfl) rfl dL_law_945 ⟨by show _ ≤ 621274; omega, by show _ ≤ 7232283; omega⟩ ?_
  refine lv_aload_n hx hb dL_law_948 rfl (lv_at hl 2 rfl) ?_
  refine wcV_i (As := []) (rest := [.int (bI (decide (mnf (mis U Z nc) (nI nc) (pw tc) = 0)))]) ⟨hx, hb, hml, hown, hts⟩ (w_M_agree l (P_r hP) htc hnc hac (D_r hD)  ) (cwV 0 hts gL_law_X1_agree rfl rfl rfl hdX1_agree ⟨Nat.le_of_ble_eq_true rfl, Nat.le_of_ble_eq_true rfl⟩) (va_recv hK hP (ci := 1) (q0 := 8) rfl rfl) hK2 hS (fr_r hD hS hA) rfl hl.1 (Nat.le_of_ble_eq_true rfl) rfl dL_law_949 ⟨by show _ ≤ 621274; omega, by show _ ≤ 7232283; omega⟩ (fun H1 locs hP1 hz1 hk1 hS => ?_)
  have hP : va_P D vwCl ((wX cI cZ q tc nc ac ch U Z B L F ++ [(o, .inl (cJ, 1, .inr (.inl f)))]) ++ wM cI cZ r 0 tc nc ac ch V Y B L F) H1 := up_r hP hD hk1 hP1
  have hD : va_D (lA s) ((wX cI cZ q tc nc ac ch U Z B L F ++ [(o, .inl (cJ, 1, .inr (.inl f)))]) ++ wM cI cZ r 0 tc nc ac ch V Y B L F) := va_D_re hD rfl
  clear hP1 hk1 hz1
  generalize H1 = H at hP hS ⊢
  refine lv_cst (y := bI (decide (mnf (mis U Z nc) (nI nc) (pw tc) = 0))) (by rw [zzf_cong hu hz]; exact congrArg bI (ag_eq U Z hnc hpw.1 hpw.2).symm) ?_
  refine lv_ieq (tgt := 1543) hx hb rfl dL_law_952 (by decide) ?_
  refine W.widen (k := cells + 9) (n := slots + 58) (by omega) (by omega) ?_
  exact kk _ _ _ ⟨0, tc, nc, ac, ch, U, Z, V, Y, B, L, F, f, hS, hP, hD, htc, hnc, hac, hu, hz, hB, hB0, lv_sub hl [0, 1, 2, 3, 4] rfl⟩
set_option maxHeartbeats 4000000 in
set_option maxRecDepth 100000 in
theorem lc_astronomers (l : Launch) {p : Program} {e : Env} {s : State} {m : MethodId} {below : List Frame} {meth : Method} {c : Code} {b N : Nat} {xs : Nat → Int32} {D : va_G} {cI cZ cJ : ClassId} {q r : Nat → Nat} {o i : Nat} {H : Heap} {locs : List Loc} {ls : Array Slot} {cells slots : Nat} {Q : State → Prop} (C : LCtx l p s m c b N xs D cI cZ cJ) (h : LStt s D cI cZ cJ q r o b i H locs ls) (hi : i + 2 < N) (hcl : cells + 9 ≤ 621274) (hsl : slots + 58 ≤ 7232283) (kk : ∀ (H : Heap) (locs : List Loc) (ls : Array Slot), LStt s D cI cZ cJ q r o b i H locs ls → W p l e room_1 s m #[Value.ref b] below meth c H locs (cells + 9) (slots + 58) Q (F0 m 1543 ls [])) : W p l e room_1 s m #[Value.ref b] below meth c H locs cells slots Q (F0 m 957 ls []) := by
  obtain ⟨hx, hb, hml, hown, hts, hX, hbl, hN, hl0, hK, hE0⟩ := C
  obtain ⟨th, tc, nc, ac, ch, U, Z, V, Y, B, L, F, f, hS, hP, hD, htc, hnc, hac, hu, hz, hB, hB0, hl⟩ := h
  have hK2 : va_K D vwCl (tyA cI cZ) s := hK.sub [0, 1] rfl
  have hA : ∀ q : Nat, s.heap.size ≤ q → lA s q := fun _ h => h
  have hbA : ¬ lA s b := Nat.not_le.mpr hbl
  have hpw := pw_in htc
  refine lv_aload_n hx hb dL_law_957 rfl (lv_at hl 3 rfl) ?_
  refine pcV_i (As := []) (rest := []) ⟨hx, hb, hml, hown, hts⟩ (g_X_astronomers l (P_l (P_l hP)) htc hnc hac ) (cwV 0 hts gL_law_X0_astronomers rfl rfl rfl hdX0_astronomers ⟨Nat.le_of_ble_eq_true rfl, Nat.le_of_ble_eq_true rfl⟩) (va_recv hK hP (ci := 0) (q0 := 0) rfl rfl) hK2 rfl hl.1 (Nat.le_of_ble_eq_true rfl) rfl dL_law_958 ⟨by show _ ≤ 621274; omega, by show _ ≤ 7232283; omega⟩ ?_
  refine lv_aload_n hx hb dL_law_961 rfl (lv_at hl 2 rfl) ?_
  refine wcV_i (As := []) (rest := [.int (nI ac)]) ⟨hx, hb, hml, hown, hts⟩ (w_M_astronomers l (P_r hP) htc hnc hac (D_r hD)  ) (cwV 0 hts gL_law_X1_astronomers rfl rfl rfl hdX1_astronomers ⟨Nat.le_of_ble_eq_true rfl, Nat.le_of_ble_eq_true rfl⟩) (va_recv hK hP (ci := 1) (q0 := 8) rfl rfl) hK2 hS (fr_r hD hS hA) rfl hl.1 (Nat.le_of_ble_eq_true rfl) rfl dL_law_962 ⟨by show _ ≤ 621274; omega, by show _ ≤ 7232283; omega⟩ (fun H1 locs hP1 hz1 hk1 hS => ?_)
  have hP : va_P D vwCl ((wX cI cZ q tc nc ac ch U Z B L F ++ [(o, .inl (cJ, 1, .inr (.inl f)))]) ++ wM cI cZ r 0 tc nc ac ch V Y B L F) H1 := up_r hP hD hk1 hP1
  have hD : va_D (lA s) ((wX cI cZ q tc nc ac ch U Z B L F ++ [(o, .inl (cJ, 1, .inr (.inl f)))]) ++ wM cI cZ r 0 tc nc ac ch V Y B L F) := va_D_re hD rfl
  clear hP1 hk1 hz1
  generalize H1 = H at hP hS ⊢
  refine lv_ieq (tgt := 1543) hx hb rfl dL_law_965 (by decide) ?_
  refine W.widen (k := cells + 9) (n := slots + 58) (by omega) (by omega) ?_
  exact kk _ _ _ ⟨0, tc, nc, ac, ch, U, Z, V, Y, B, L, F, f, hS, hP, hD, htc, hnc, hac, hu, hz, hB, hB0, lv_sub hl [0, 1, 2, 3, 4] rfl⟩
set_option maxHeartbeats 4000000 in
set_option maxRecDepth 100000 in
theorem lc_blamedBy (l : Launch) {p : Program} {e : Env} {s : State} {m : MethodId} {below : List Frame} {meth : Method} {c : Code} {b N : Nat} {xs : Nat → Int32} {D : va_G} {cI cZ cJ : ClassId} {q r : Nat → Nat} {o i : Nat} {H : Heap} {locs : List Loc} {ls : Array Slot} {cells slots : Nat} {Q : State → Prop} (C : LCtx l p s m c b N xs D cI cZ cJ) (h : LStt s D cI cZ cJ q r o b i H locs ls) (hi : i + 2 < N) (hcl : cells + 9 ≤ 621274) (hsl : slots + 58 ≤ 7232283) (kk : ∀ (H : Heap) (locs : List Loc) (ls : Array Slot), LStt s D cI cZ cJ q r o b i H locs ls → W p l e room_1 s m #[Value.ref b] below meth c H locs (cells + 9) (slots + 58) Q (F0 m 1543 ls [])) : W p l e room_1 s m #[Value.ref b] below meth c H locs cells slots Q (F0 m 970 ls []) := by
  obtain ⟨hx, hb, hml, hown, hts, hX, hbl, hN, hl0, hK, hE0⟩ := C
  obtain ⟨th, tc, nc, ac, ch, U, Z, V, Y, B, L, F, f, hS, hP, hD, htc, hnc, hac, hu, hz, hB, hB0, hl⟩ := h
  have hK2 : va_K D vwCl (tyA cI cZ) s := hK.sub [0, 1] rfl
  have hA : ∀ q : Nat, s.heap.size ≤ q → lA s q := fun _ h => h
  have hbA : ¬ lA s b := Nat.not_le.mpr hbl
  have hpw := pw_in htc
  rcases ar_th (xs (i + 1)) ac with hv | ⟨t, ht, ev⟩
  · skip
    refine lv_aload_n hx hb dL_law_970 rfl (lv_at hl 3 rfl) ?_
    refine lv_aload_n hx hb dL_law_971 rfl (lv_at hl 4 rfl) ?_
    refine lv_iload hx hb dL_law_972 (lv_at hl 0 rfl) ?_
    refine lv_iconst (v := 1) hx hb dL_law_974 (by decide) ?_
    refine lv_iadd hx hb dL_law_975 ?_
    refine lv_cst (y := nI (i + 1)) (nI_add i 1) ?_
    refine s_ld hx hb hX hbl hbA hS (j := i + 1) (by omega) hN dL_law_976 ?_
    refine lv_aload_n hx hb dL_law_977 rfl (lv_at hl 1 rfl) ?_
    refine sc_b (k := 1) (As := [.ref (q 0), .int (xs (i + 1)), .ref o]) (rest := []) ⟨hx, hb, hml, hown, hts⟩ (wx_L_blamedBy l hl0 (P_l hP) htc hnc hac (v := xs (i + 1)) hv) (vx_cwSW 3 hts gL_law_L_blamedBy rfl rfl rfl hdL_blamedBy ⟨Nat.le_of_ble_eq_true rfl, Nat.le_of_ble_eq_true rfl⟩) hK (xE_law hE0 hS) hS rfl hl.1 (Nat.le_of_ble_eq_true rfl) rfl dL_law_978 ⟨by show _ ≤ 621274; omega, by show _ ≤ 7232283; omega⟩ (fun H1 locs hz1 hk1 hS => ?_)
    have hP : va_P D vwCl ((wX cI cZ q tc nc ac ch U Z B L F ++ [(o, .inl (cJ, 1, .inr (.inl f)))]) ++ wM cI cZ r th tc nc ac ch V Y B L F) H1 := grow_P hP hk1
    clear hk1 hz1
    generalize H1 = H at hP hS ⊢
    refine lv_istore (lv' := [(5, .int 1), (4, .int (nI i)), (3, .ref o), (2, .ref (r 0)), (1, .ref (q 0)), (0, .ref b)]) hx hb dL_law_981 hl (by decide) rfl (fun ls hl => ?_)
    refine lv_aload_n hx hb dL_law_983 rfl (lv_at hl 3 rfl) ?_
    refine lv_aload_n hx hb dL_law_984 rfl (lv_at hl 5 rfl) ?_
    refine lv_iload hx hb dL_law_985 (lv_at hl 1 rfl) ?_
    refine lv_iconst (v := 1) hx hb dL_law_987 (by decide) ?_
    refine lv_iadd hx hb dL_law_988 ?_
    refine lv_cst (y := nI (i + 1)) (nI_add i 1) ?_
    refine s_ld hx hb hX hbl hbA hS (j := i + 1) (by omega) hN dL_law_989 ?_
    refine wcV_i (As := [.int (xs (i + 1))]) (rest := []) ⟨hx, hb, hml, hown, hts⟩ (wb_M_blamedBy l (P_r hP) htc hnc hac (D_r hD) (v := xs (i + 1)) hv) (cwV 1 hts gL_law_X1_blamedBy rfl rfl rfl hdX1_blamedBy ⟨Nat.le_of_ble_eq_true rfl, Nat.le_of_ble_eq_true rfl⟩) (va_recv hK hP (ci := 1) (q0 := 8) rfl rfl) hK2 hS (fr_r hD hS hA) rfl hl.1 (Nat.le_of_ble_eq_true rfl) rfl dL_law_990 ⟨by show _ ≤ 621274; omega, by show _ ≤ 7232283; omega⟩ (fun H1 locs hP1 hz1 hk1 hS => ?_)
    have hP : va_P D vwCl ((wX cI cZ q tc nc ac ch U Z B L F ++ [(o, .inl (cJ, 1, .inr (.inl f)))]) ++ wM cI cZ r 1 tc nc ac ch V Y B L F) H1 := up_r hP hD hk1 hP1
    have hD : va_D (lA s) ((wX cI cZ q tc nc ac ch U Z B L F ++ [(o, .inl (cJ, 1, .inr (.inl f)))]) ++ wM cI cZ r 1 tc nc ac ch V Y B L F) := va_D_re hD rfl
    clear hP1 hk1 hz1
    generalize H1 = H at hP hS ⊢
    refine lv_istore (lv' := [(6, .int 0), (5, .int 1), (4, .int (nI i)), (3, .ref o), (2, .ref (r 0)), (1, .ref (q 0)), (0, .ref b)]) hx hb dL_law_993 hl (by decide) rfl (fun ls hl => ?_)
    refine lv_aload_n hx hb dL_law_995 rfl (lv_at hl 4 rfl) ?_
    refine pcV_i (As := []) (rest := []) ⟨hx, hb, hml, hown, hts⟩ (g_M_thrown l (P_r hP) htc hnc hac) (cwV 0 hts gL_law_X1_thrown rfl rfl rfl hdX1_thrown ⟨Nat.le_of_ble_eq_true rfl, Nat.le_of_ble_eq_true rfl⟩) (va_recv hK hP (ci := 1) (q0 := 8) rfl rfl) hK2 rfl hl.1 (Nat.le_of_ble_eq_true rfl) rfl dL_law_996 ⟨by show _ ≤ 621274; omega, by show _ ≤ 7232283; omega⟩ ?_
    refine lv_iload hx hb dL_law_999 (lv_at hl 1 rfl) ?_
    refine lv_ieq (tgt := 1006) hx hb rfl dL_law_1001 (by decide) ?_
    refine lv_iload hx hb dL_law_1006 (lv_at hl 1 rfl) ?_
    refine lv_if_ne (tgt := 1023) hx hb dL_law_1008 (by decide) (fun _ => ?_) (fun h0 => absurd h0 (by decide))
    refine lv_goto (tgt := 1543) hx hb dL_law_1023 (by decide) ?_
    refine W.widen (k := cells + 9) (n := slots + 58) (by omega) (by omega) ?_
    exact kk _ _ _ ⟨1, tc, nc, ac, ch, U, Z, V, Y, B, L, F, f, hS, hP, hD, htc, hnc, hac, hu, hz, hB, hB0, lv_sub hl [2, 3, 4, 5, 6] rfl⟩
  · skip
    refine lv_aload_n hx hb dL_law_970 rfl (lv_at hl 3 rfl) ?_
    refine lv_aload_n hx hb dL_law_971 rfl (lv_at hl 4 rfl) ?_
    refine lv_iload hx hb dL_law_972 (lv_at hl 0 rfl) ?_
    refine lv_iconst (v := 1) hx hb dL_law_974 (by decide) ?_
    refine lv_iadd hx hb dL_law_975 ?_
    refine lv_cst (y := nI (i + 1)) (nI_add i 1) ?_
    refine s_ld hx hb hX hbl hbA hS (j := i + 1) (by omega) hN dL_law_976 ?_
    refine lv_cst (y := nI t) ev ?_
    refine lv_aload_n hx hb dL_law_977 rfl (lv_at hl 1 rfl) ?_
    refine sc_g (As := [.ref (q 0), .int (nI t), .ref o]) (rest := []) ⟨hx, hb, hml, hown, hts⟩ (w_L_blamedBy l (P_l hP) htc hnc hac (D_l hD) (t := t) ht) (vx_cwSW 3 hts gL_law_L_blamedBy rfl rfl rfl hdL_blamedBy ⟨Nat.le_of_ble_eq_true rfl, Nat.le_of_ble_eq_true rfl⟩) hK hS (fr_l hD hS hA) rfl hl.1 (Nat.le_of_ble_eq_true rfl) rfl dL_law_978 ⟨by show _ ≤ 621274; omega, by show _ ≤ 7232283; omega⟩ (fun H1 locs hP1 hz1 hk1 hS => ?_)
    have hP : va_P D vwCl ((wX cI cZ q tc nc ac ch U Z B L F ++ [(o, .inl (cJ, 1, .inr (.inl (vp_updL f 0 (B t).toInt64))))]) ++ wM cI cZ r th tc nc ac ch V Y B L F) H1 := up_l hP hD hk1 hP1
    have hD : va_D (lA s) ((wX cI cZ q tc nc ac ch U Z B L F ++ [(o, .inl (cJ, 1, .inr (.inl (vp_updL f 0 (B t).toInt64))))]) ++ wM cI cZ r th tc nc ac ch V Y B L F) := va_D_re hD rfl
    clear hP1 hk1 hz1
    generalize H1 = H at hP hS ⊢
    refine lv_istore (lv' := [(5, .int 0), (4, .int (nI i)), (3, .ref o), (2, .ref (r 0)), (1, .ref (q 0)), (0, .ref b)]) hx hb dL_law_981 hl (by decide) rfl (fun ls hl => ?_)
    refine lv_aload_n hx hb dL_law_983 rfl (lv_at hl 3 rfl) ?_
    refine lv_aload_n hx hb dL_law_984 rfl (lv_at hl 5 rfl) ?_
    refine lv_iload hx hb dL_law_985 (lv_at hl 1 rfl) ?_
    refine lv_iconst (v := 1) hx hb dL_law_987 (by decide) ?_
    refine lv_iadd hx hb dL_law_988 ?_
    refine lv_cst (y := nI (i + 1)) (nI_add i 1) ?_
    refine s_ld hx hb hX hbl hbA hS (j := i + 1) (by omega) hN dL_law_989 ?_
    refine lv_cst (y := nI t) ev ?_
    refine wcV_i (As := [.int (nI t)]) (rest := []) ⟨hx, hb, hml, hown, hts⟩ (w_M_blamedBy l (P_r hP) htc hnc hac (D_r hD) (t := t) ht) (cwV 1 hts gL_law_X1_blamedBy rfl rfl rfl hdX1_blamedBy ⟨Nat.le_of_ble_eq_true rfl, Nat.le_of_ble_eq_true rfl⟩) (va_recv hK hP (ci := 1) (q0 := 8) rfl rfl) hK2 hS (fr_r hD hS hA) rfl hl.1 (Nat.le_of_ble_eq_true rfl) rfl dL_law_990 ⟨by show _ ≤ 621274; omega, by show _ ≤ 7232283; omega⟩ (fun H1 locs hP1 hz1 hk1 hS => ?_)
    have hP : va_P D vwCl ((wX cI cZ q tc nc ac ch U Z B L F ++ [(o, .inl (cJ, 1, .inr (.inl (vp_updL f 0 (B t).toInt64))))]) ++ wM cI cZ r 0 tc nc ac ch V Y B L F) H1 := up_r hP hD hk1 hP1
    have hD : va_D (lA s) ((wX cI cZ q tc nc ac ch U Z B L F ++ [(o, .inl (cJ, 1, .inr (.inl (vp_updL f 0 (B t).toInt64))))]) ++ wM cI cZ r 0 tc nc ac ch V Y B L F) := va_D_re hD rfl
    clear hP1 hk1 hz1
    generalize H1 = H at hP hS ⊢
    refine lv_istore (lv' := [(6, .int (B t)), (5, .int 0), (4, .int (nI i)), (3, .ref o), (2, .ref (r 0)), (1, .ref (q 0)), (0, .ref b)]) hx hb dL_law_993 hl (by decide) rfl (fun ls hl => ?_)
    refine lv_aload_n hx hb dL_law_995 rfl (lv_at hl 4 rfl) ?_
    refine pcV_i (As := []) (rest := []) ⟨hx, hb, hml, hown, hts⟩ (g_M_thrown l (P_r hP) htc hnc hac) (cwV 0 hts gL_law_X1_thrown rfl rfl rfl hdX1_thrown ⟨Nat.le_of_ble_eq_true rfl, Nat.le_of_ble_eq_true rfl⟩) (va_recv hK hP (ci := 1) (q0 := 8) rfl rfl) hK2 rfl hl.1 (Nat.le_of_ble_eq_true rfl) rfl dL_law_996 ⟨by show _ ≤ 621274; omega, by show _ ≤ 7232283; omega⟩ ?_
    refine lv_iload hx hb dL_law_999 (lv_at hl 1 rfl) ?_
    refine lv_ieq (tgt := 1006) hx hb rfl dL_law_1001 (by decide) ?_
    refine lv_iload hx hb dL_law_1006 (lv_at hl 1 rfl) ?_
    refine lv_if_ne (tgt := 1023) hx hb dL_law_1008 (by decide) (fun h0 => absurd rfl h0) (fun _ => ?_)
    refine lv_aload_n hx hb dL_law_1011 rfl (lv_at hl 3 rfl) ?_
    refine lv_iconst (v := 0) hx hb dL_law_1012 (by decide) ?_
    refine ll_ld hx hb hK hP 7 2 rfl rfl dL_law_1013 ?_
    refine lv_iload hx hb dL_law_1014 (lv_at hl 0 rfl) ?_
    refine lv_i2l (v := (B t).toInt64) hx hb dL_law_1016 rfl ?_
    refine lv_leq (tgt := 1023) hx hb rfl dL_law_1017 dL_law_1018 (by decide) ?_
    refine lv_goto (tgt := 1543) hx hb dL_law_1023 (by decide) ?_
    refine W.widen (k := cells + 9) (n := slots + 58) (by omega) (by omega) ?_
    exact kk _ _ _ ⟨0, tc, nc, ac, ch, U, Z, V, Y, B, L, F, (vp_updL f 0 (B t).toInt64), hS, hP, hD, htc, hnc, hac, hu, hz, hB, hB0, lv_sub hl [2, 3, 4, 5, 6] rfl⟩
set_option maxHeartbeats 4000000 in
set_option maxRecDepth 100000 in
theorem lc_stubbornnessOf (l : Launch) {p : Program} {e : Env} {s : State} {m : MethodId} {below : List Frame} {meth : Method} {c : Code} {b N : Nat} {xs : Nat → Int32} {D : va_G} {cI cZ cJ : ClassId} {q r : Nat → Nat} {o i : Nat} {H : Heap} {locs : List Loc} {ls : Array Slot} {cells slots : Nat} {Q : State → Prop} (C : LCtx l p s m c b N xs D cI cZ cJ) (h : LStt s D cI cZ cJ q r o b i H locs ls) (hi : i + 2 < N) (hcl : cells + 9 ≤ 621274) (hsl : slots + 58 ≤ 7232283) (kk : ∀ (H : Heap) (locs : List Loc) (ls : Array Slot), LStt s D cI cZ cJ q r o b i H locs ls → W p l e room_1 s m #[Value.ref b] below meth c H locs (cells + 9) (slots + 58) Q (F0 m 1543 ls [])) : W p l e room_1 s m #[Value.ref b] below meth c H locs cells slots Q (F0 m 1026 ls []) := by
  obtain ⟨hx, hb, hml, hown, hts, hX, hbl, hN, hl0, hK, hE0⟩ := C
  obtain ⟨th, tc, nc, ac, ch, U, Z, V, Y, B, L, F, f, hS, hP, hD, htc, hnc, hac, hu, hz, hB, hB0, hl⟩ := h
  have hK2 : va_K D vwCl (tyA cI cZ) s := hK.sub [0, 1] rfl
  have hA : ∀ q : Nat, s.heap.size ≤ q → lA s q := fun _ h => h
  have hbA : ¬ lA s b := Nat.not_le.mpr hbl
  have hpw := pw_in htc
  rcases ar_th (xs (i + 1)) ac with hv | ⟨t, ht, ev⟩
  · skip
    refine lv_aload_n hx hb dL_law_1026 rfl (lv_at hl 3 rfl) ?_
    refine lv_aload_n hx hb dL_law_1027 rfl (lv_at hl 4 rfl) ?_
    refine lv_iload hx hb dL_law_1028 (lv_at hl 0 rfl) ?_
    refine lv_iconst (v := 1) hx hb dL_law_1030 (by decide) ?_
    refine lv_iadd hx hb dL_law_1031 ?_
    refine lv_cst (y := nI (i + 1)) (nI_add i 1) ?_
    refine s_ld hx hb hX hbl hbA hS (j := i + 1) (by omega) hN dL_law_1032 ?_
    refine lv_aload_n hx hb dL_law_1033 rfl (lv_at hl 1 rfl) ?_
    refine sc_b (k := 1) (As := [.ref (q 0), .int (xs (i + 1)), .ref o]) (rest := []) ⟨hx, hb, hml, hown, hts⟩ (wx_L_stubbornnessOf l hl0 (P_l hP) htc hnc hac (v := xs (i + 1)) hv) (vx_cwSW 3 hts gL_law_L_stubbornnessOf rfl rfl rfl hdL_stubbornnessOf ⟨Nat.le_of_ble_eq_true rfl, Nat.le_of_ble_eq_true rfl⟩) hK (xE_law hE0 hS) hS rfl hl.1 (Nat.le_of_ble_eq_true rfl) rfl dL_law_1034 ⟨by show _ ≤ 621274; omega, by show _ ≤ 7232283; omega⟩ (fun H1 locs hz1 hk1 hS => ?_)
    have hP : va_P D vwCl ((wX cI cZ q tc nc ac ch U Z B L F ++ [(o, .inl (cJ, 1, .inr (.inl f)))]) ++ wM cI cZ r th tc nc ac ch V Y B L F) H1 := grow_P hP hk1
    clear hk1 hz1
    generalize H1 = H at hP hS ⊢
    refine lv_istore (lv' := [(5, .int 1), (4, .int (nI i)), (3, .ref o), (2, .ref (r 0)), (1, .ref (q 0)), (0, .ref b)]) hx hb dL_law_1037 hl (by decide) rfl (fun ls hl => ?_)
    refine lv_aload_n hx hb dL_law_1039 rfl (lv_at hl 3 rfl) ?_
    refine lv_aload_n hx hb dL_law_1040 rfl (lv_at hl 5 rfl) ?_
    refine lv_iload hx hb dL_law_1041 (lv_at hl 1 rfl) ?_
    refine lv_iconst (v := 1) hx hb dL_law_1043 (by decide) ?_
    refine lv_iadd hx hb dL_law_1044 ?_
    refine lv_cst (y := nI (i + 1)) (nI_add i 1) ?_
    refine s_ld hx hb hX hbl hbA hS (j := i + 1) (by omega) hN dL_law_1045 ?_
    refine wcV_i (As := [.int (xs (i + 1))]) (rest := []) ⟨hx, hb, hml, hown, hts⟩ (wb_M_stubbornnessOf l (P_r hP) htc hnc hac (D_r hD) (v := xs (i + 1)) hv) (cwV 1 hts gL_law_X1_stubbornnessOf rfl rfl rfl hdX1_stubbornnessOf ⟨Nat.le_of_ble_eq_true rfl, Nat.le_of_ble_eq_true rfl⟩) (va_recv hK hP (ci := 1) (q0 := 8) rfl rfl) hK2 hS (fr_r hD hS hA) rfl hl.1 (Nat.le_of_ble_eq_true rfl) rfl dL_law_1046 ⟨by show _ ≤ 621274; omega, by show _ ≤ 7232283; omega⟩ (fun H1 locs hP1 hz1 hk1 hS => ?_)
    have hP : va_P D vwCl ((wX cI cZ q tc nc ac ch U Z B L F ++ [(o, .inl (cJ, 1, .inr (.inl f)))]) ++ wM cI cZ r 1 tc nc ac ch V Y B L F) H1 := up_r hP hD hk1 hP1
    have hD : va_D (lA s) ((wX cI cZ q tc nc ac ch U Z B L F ++ [(o, .inl (cJ, 1, .inr (.inl f)))]) ++ wM cI cZ r 1 tc nc ac ch V Y B L F) := va_D_re hD rfl
    clear hP1 hk1 hz1
    generalize H1 = H at hP hS ⊢
    refine lv_istore (lv' := [(6, .int 0), (5, .int 1), (4, .int (nI i)), (3, .ref o), (2, .ref (r 0)), (1, .ref (q 0)), (0, .ref b)]) hx hb dL_law_1049 hl (by decide) rfl (fun ls hl => ?_)
    refine lv_aload_n hx hb dL_law_1051 rfl (lv_at hl 4 rfl) ?_
    refine pcV_i (As := []) (rest := []) ⟨hx, hb, hml, hown, hts⟩ (g_M_thrown l (P_r hP) htc hnc hac) (cwV 0 hts gL_law_X1_thrown rfl rfl rfl hdX1_thrown ⟨Nat.le_of_ble_eq_true rfl, Nat.le_of_ble_eq_true rfl⟩) (va_recv hK hP (ci := 1) (q0 := 8) rfl rfl) hK2 rfl hl.1 (Nat.le_of_ble_eq_true rfl) rfl dL_law_1052 ⟨by show _ ≤ 621274; omega, by show _ ≤ 7232283; omega⟩ ?_
    refine lv_iload hx hb dL_law_1055 (lv_at hl 1 rfl) ?_
    refine lv_ieq (tgt := 1062) hx hb rfl dL_law_1057 (by decide) ?_
    refine lv_iload hx hb dL_law_1062 (lv_at hl 1 rfl) ?_
    refine lv_if_ne (tgt := 1079) hx hb dL_law_1064 (by decide) (fun _ => ?_) (fun h0 => absurd h0 (by decide))
    refine lv_goto (tgt := 1543) hx hb dL_law_1079 (by decide) ?_
    refine W.widen (k := cells + 9) (n := slots + 58) (by omega) (by omega) ?_
    exact kk _ _ _ ⟨1, tc, nc, ac, ch, U, Z, V, Y, B, L, F, f, hS, hP, hD, htc, hnc, hac, hu, hz, hB, hB0, lv_sub hl [2, 3, 4, 5, 6] rfl⟩
  · skip
    refine lv_aload_n hx hb dL_law_1026 rfl (lv_at hl 3 rfl) ?_
    refine lv_aload_n hx hb dL_law_1027 rfl (lv_at hl 4 rfl) ?_
    refine lv_iload hx hb dL_law_1028 (lv_at hl 0 rfl) ?_
    refine lv_iconst (v := 1) hx hb dL_law_1030 (by decide) ?_
    refine lv_iadd hx hb dL_law_1031 ?_
    refine lv_cst (y := nI (i + 1)) (nI_add i 1) ?_
    refine s_ld hx hb hX hbl hbA hS (j := i + 1) (by omega) hN dL_law_1032 ?_
    refine lv_cst (y := nI t) ev ?_
    refine lv_aload_n hx hb dL_law_1033 rfl (lv_at hl 1 rfl) ?_
    refine sc_g (As := [.ref (q 0), .int (nI t), .ref o]) (rest := []) ⟨hx, hb, hml, hown, hts⟩ (w_L_stubbornnessOf l (P_l hP) htc hnc hac (D_l hD) (t := t) ht) (vx_cwSW 3 hts gL_law_L_stubbornnessOf rfl rfl rfl hdL_stubbornnessOf ⟨Nat.le_of_ble_eq_true rfl, Nat.le_of_ble_eq_true rfl⟩) hK hS (fr_l hD hS hA) rfl hl.1 (Nat.le_of_ble_eq_true rfl) rfl dL_law_1034 ⟨by show _ ≤ 621274; omega, by show _ ≤ 7232283; omega⟩ (fun H1 locs hP1 hz1 hk1 hS => ?_)
    have hP : va_P D vwCl ((wX cI cZ q tc nc ac ch U Z B L F ++ [(o, .inl (cJ, 1, .inr (.inl (vp_updL f 0 (L t).toInt64))))]) ++ wM cI cZ r th tc nc ac ch V Y B L F) H1 := up_l hP hD hk1 hP1
    have hD : va_D (lA s) ((wX cI cZ q tc nc ac ch U Z B L F ++ [(o, .inl (cJ, 1, .inr (.inl (vp_updL f 0 (L t).toInt64))))]) ++ wM cI cZ r th tc nc ac ch V Y B L F) := va_D_re hD rfl
    clear hP1 hk1 hz1
    generalize H1 = H at hP hS ⊢
    refine lv_istore (lv' := [(5, .int 0), (4, .int (nI i)), (3, .ref o), (2, .ref (r 0)), (1, .ref (q 0)), (0, .ref b)]) hx hb dL_law_1037 hl (by decide) rfl (fun ls hl => ?_)
    refine lv_aload_n hx hb dL_law_1039 rfl (lv_at hl 3 rfl) ?_
    refine lv_aload_n hx hb dL_law_1040 rfl (lv_at hl 5 rfl) ?_
    refine lv_iload hx hb dL_law_1041 (lv_at hl 1 rfl) ?_
    refine lv_iconst (v := 1) hx hb dL_law_1043 (by decide) ?_
    refine lv_iadd hx hb dL_law_1044 ?_
    refine lv_cst (y := nI (i + 1)) (nI_add i 1) ?_
    refine s_ld hx hb hX hbl hbA hS (j := i + 1) (by omega) hN dL_law_1045 ?_
    refine lv_cst (y := nI t) ev ?_
    refine wcV_i (As := [.int (nI t)]) (rest := []) ⟨hx, hb, hml, hown, hts⟩ (w_M_stubbornnessOf l (P_r hP) htc hnc hac (D_r hD) (t := t) ht) (cwV 1 hts gL_law_X1_stubbornnessOf rfl rfl rfl hdX1_stubbornnessOf ⟨Nat.le_of_ble_eq_true rfl, Nat.le_of_ble_eq_true rfl⟩) (va_recv hK hP (ci := 1) (q0 := 8) rfl rfl) hK2 hS (fr_r hD hS hA) rfl hl.1 (Nat.le_of_ble_eq_true rfl) rfl dL_law_1046 ⟨by show _ ≤ 621274; omega, by show _ ≤ 7232283; omega⟩ (fun H1 locs hP1 hz1 hk1 hS => ?_)
    have hP : va_P D vwCl ((wX cI cZ q tc nc ac ch U Z B L F ++ [(o, .inl (cJ, 1, .inr (.inl (vp_updL f 0 (L t).toInt64))))]) ++ wM cI cZ r 0 tc nc ac ch V Y B L F) H1 := up_r hP hD hk1 hP1
    have hD : va_D (lA s) ((wX cI cZ q tc nc ac ch U Z B L F ++ [(o, .inl (cJ, 1, .inr (.inl (vp_updL f 0 (L t).toInt64))))]) ++ wM cI cZ r 0 tc nc ac ch V Y B L F) := va_D_re hD rfl
    clear hP1 hk1 hz1
    generalize H1 = H at hP hS ⊢
    refine lv_istore (lv' := [(6, .int (L t)), (5, .int 0), (4, .int (nI i)), (3, .ref o), (2, .ref (r 0)), (1, .ref (q 0)), (0, .ref b)]) hx hb dL_law_1049 hl (by decide) rfl (fun ls hl => ?_)
    refine lv_aload_n hx hb dL_law_1051 rfl (lv_at hl 4 rfl) ?_
    refine pcV_i (As := []) (rest := []) ⟨hx, hb, hml, hown, hts⟩ (g_M_thrown l (P_r hP) htc hnc hac) (cwV 0 hts gL_law_X1_thrown rfl rfl rfl hdX1_thrown ⟨Nat.le_of_ble_eq_true rfl, Nat.le_of_ble_eq_true rfl⟩) (va_recv hK hP (ci := 1) (q0 := 8) rfl rfl) hK2 rfl hl.1 (Nat.le_of_ble_eq_true rfl) rfl dL_law_1052 ⟨by show _ ≤ 621274; omega, by show _ ≤ 7232283; omega⟩ ?_
    refine lv_iload hx hb dL_law_1055 (lv_at hl 1 rfl) ?_
    refine lv_ieq (tgt := 1062) hx hb rfl dL_law_1057 (by decide) ?_
    refine lv_iload hx hb dL_law_1062 (lv_at hl 1 rfl) ?_
    refine lv_if_ne (tgt := 1079) hx hb dL_law_1064 (by decide) (fun h0 => absurd rfl h0) (fun _ => ?_)
    refine lv_aload_n hx hb dL_law_1067 rfl (lv_at hl 3 rfl) ?_
    refine lv_iconst (v := 0) hx hb dL_law_1068 (by decide) ?_
    refine ll_ld hx hb hK hP 7 2 rfl rfl dL_law_1069 ?_
    refine lv_iload hx hb dL_law_1070 (lv_at hl 0 rfl) ?_
    refine lv_i2l (v := (L t).toInt64) hx hb dL_law_1072 rfl ?_
    refine lv_leq (tgt := 1079) hx hb rfl dL_law_1073 dL_law_1074 (by decide) ?_
    refine lv_goto (tgt := 1543) hx hb dL_law_1079 (by decide) ?_
    refine W.widen (k := cells + 9) (n := slots + 58) (by omega) (by omega) ?_
    exact kk _ _ _ ⟨0, tc, nc, ac, ch, U, Z, V, Y, B, L, F, (vp_updL f 0 (L t).toInt64), hS, hP, hD, htc, hnc, hac, hu, hz, hB, hB0, lv_sub hl [2, 3, 4, 5, 6] rfl⟩
set_option maxHeartbeats 4000000 in
set_option maxRecDepth 100000 in
theorem lc_unexplainedBy (l : Launch) {p : Program} {e : Env} {s : State} {m : MethodId} {below : List Frame} {meth : Method} {c : Code} {b N : Nat} {xs : Nat → Int32} {D : va_G} {cI cZ cJ : ClassId} {q r : Nat → Nat} {o i : Nat} {H : Heap} {locs : List Loc} {ls : Array Slot} {cells slots : Nat} {Q : State → Prop} (C : LCtx l p s m c b N xs D cI cZ cJ) (h : LStt s D cI cZ cJ q r o b i H locs ls) (hi : i + 2 < N) (hcl : cells + 9 ≤ 621274) (hsl : slots + 58 ≤ 7232283) (kk : ∀ (H : Heap) (locs : List Loc) (ls : Array Slot), LStt s D cI cZ cJ q r o b i H locs ls → W p l e room_1 s m #[Value.ref b] below meth c H locs (cells + 9) (slots + 58) Q (F0 m 1543 ls [])) : W p l e room_1 s m #[Value.ref b] below meth c H locs cells slots Q (F0 m 1082 ls []) := by
  obtain ⟨hx, hb, hml, hown, hts, hX, hbl, hN, hl0, hK, hE0⟩ := C
  obtain ⟨th, tc, nc, ac, ch, U, Z, V, Y, B, L, F, f, hS, hP, hD, htc, hnc, hac, hu, hz, hB, hB0, hl⟩ := h
  have hK2 : va_K D vwCl (tyA cI cZ) s := hK.sub [0, 1] rfl
  have hA : ∀ q : Nat, s.heap.size ≤ q → lA s q := fun _ h => h
  have hbA : ¬ lA s b := Nat.not_le.mpr hbl
  have hpw := pw_in htc
  rcases ar_th (xs (i + 1)) ac with hv | ⟨t, ht, ev⟩
  · skip
    refine lv_aload_n hx hb dL_law_1082 rfl (lv_at hl 3 rfl) ?_
    refine lv_aload_n hx hb dL_law_1083 rfl (lv_at hl 4 rfl) ?_
    refine lv_iload hx hb dL_law_1084 (lv_at hl 0 rfl) ?_
    refine lv_iconst (v := 1) hx hb dL_law_1086 (by decide) ?_
    refine lv_iadd hx hb dL_law_1087 ?_
    refine lv_cst (y := nI (i + 1)) (nI_add i 1) ?_
    refine s_ld hx hb hX hbl hbA hS (j := i + 1) (by omega) hN dL_law_1088 ?_
    refine lv_aload_n hx hb dL_law_1089 rfl (lv_at hl 1 rfl) ?_
    refine sc_b (k := 1) (As := [.ref (q 0), .int (xs (i + 1)), .ref o]) (rest := []) ⟨hx, hb, hml, hown, hts⟩ (wx_L_unexplainedBy l hl0 (P_l hP) htc hnc hac (v := xs (i + 1)) hv) (vx_cwSW 3 hts gL_law_L_unexplainedBy rfl rfl rfl hdL_unexplainedBy ⟨Nat.le_of_ble_eq_true rfl, Nat.le_of_ble_eq_true rfl⟩) hK (xE_law hE0 hS) hS rfl hl.1 (Nat.le_of_ble_eq_true rfl) rfl dL_law_1090 ⟨by show _ ≤ 621274; omega, by show _ ≤ 7232283; omega⟩ (fun H1 locs hz1 hk1 hS => ?_)
    have hP : va_P D vwCl ((wX cI cZ q tc nc ac ch U Z B L F ++ [(o, .inl (cJ, 1, .inr (.inl f)))]) ++ wM cI cZ r th tc nc ac ch V Y B L F) H1 := grow_P hP hk1
    clear hk1 hz1
    generalize H1 = H at hP hS ⊢
    refine lv_istore (lv' := [(5, .int 1), (4, .int (nI i)), (3, .ref o), (2, .ref (r 0)), (1, .ref (q 0)), (0, .ref b)]) hx hb dL_law_1093 hl (by decide) rfl (fun ls hl => ?_)
    refine lv_aload_n hx hb dL_law_1095 rfl (lv_at hl 3 rfl) ?_
    refine lv_aload_n hx hb dL_law_1096 rfl (lv_at hl 5 rfl) ?_
    refine lv_iload hx hb dL_law_1097 (lv_at hl 1 rfl) ?_
    refine lv_iconst (v := 1) hx hb dL_law_1099 (by decide) ?_
    refine lv_iadd hx hb dL_law_1100 ?_
    refine lv_cst (y := nI (i + 1)) (nI_add i 1) ?_
    refine s_ld hx hb hX hbl hbA hS (j := i + 1) (by omega) hN dL_law_1101 ?_
    refine wcV_i (As := [.int (xs (i + 1))]) (rest := []) ⟨hx, hb, hml, hown, hts⟩ (wb_M_unexplainedBy l (P_r hP) htc hnc hac (D_r hD) (v := xs (i + 1)) hv) (cwV 1 hts gL_law_X1_unexplainedBy rfl rfl rfl hdX1_unexplainedBy ⟨Nat.le_of_ble_eq_true rfl, Nat.le_of_ble_eq_true rfl⟩) (va_recv hK hP (ci := 1) (q0 := 8) rfl rfl) hK2 hS (fr_r hD hS hA) rfl hl.1 (Nat.le_of_ble_eq_true rfl) rfl dL_law_1102 ⟨by show _ ≤ 621274; omega, by show _ ≤ 7232283; omega⟩ (fun H1 locs hP1 hz1 hk1 hS => ?_)
    have hP : va_P D vwCl ((wX cI cZ q tc nc ac ch U Z B L F ++ [(o, .inl (cJ, 1, .inr (.inl f)))]) ++ wM cI cZ r 1 tc nc ac ch V Y B L F) H1 := up_r hP hD hk1 hP1
    have hD : va_D (lA s) ((wX cI cZ q tc nc ac ch U Z B L F ++ [(o, .inl (cJ, 1, .inr (.inl f)))]) ++ wM cI cZ r 1 tc nc ac ch V Y B L F) := va_D_re hD rfl
    clear hP1 hk1 hz1
    generalize H1 = H at hP hS ⊢
    refine lv_istore (lv' := [(6, .int 0), (5, .int 1), (4, .int (nI i)), (3, .ref o), (2, .ref (r 0)), (1, .ref (q 0)), (0, .ref b)]) hx hb dL_law_1105 hl (by decide) rfl (fun ls hl => ?_)
    refine lv_aload_n hx hb dL_law_1107 rfl (lv_at hl 4 rfl) ?_
    refine pcV_i (As := []) (rest := []) ⟨hx, hb, hml, hown, hts⟩ (g_M_thrown l (P_r hP) htc hnc hac) (cwV 0 hts gL_law_X1_thrown rfl rfl rfl hdX1_thrown ⟨Nat.le_of_ble_eq_true rfl, Nat.le_of_ble_eq_true rfl⟩) (va_recv hK hP (ci := 1) (q0 := 8) rfl rfl) hK2 rfl hl.1 (Nat.le_of_ble_eq_true rfl) rfl dL_law_1108 ⟨by show _ ≤ 621274; omega, by show _ ≤ 7232283; omega⟩ ?_
    refine lv_iload hx hb dL_law_1111 (lv_at hl 1 rfl) ?_
    refine lv_ieq (tgt := 1118) hx hb rfl dL_law_1113 (by decide) ?_
    refine lv_iload hx hb dL_law_1118 (lv_at hl 1 rfl) ?_
    refine lv_if_ne (tgt := 1135) hx hb dL_law_1120 (by decide) (fun _ => ?_) (fun h0 => absurd h0 (by decide))
    refine lv_goto (tgt := 1543) hx hb dL_law_1135 (by decide) ?_
    refine W.widen (k := cells + 9) (n := slots + 58) (by omega) (by omega) ?_
    exact kk _ _ _ ⟨1, tc, nc, ac, ch, U, Z, V, Y, B, L, F, f, hS, hP, hD, htc, hnc, hac, hu, hz, hB, hB0, lv_sub hl [2, 3, 4, 5, 6] rfl⟩
  · skip
    obtain ⟨k9, hk9, hB9⟩ := hB t (by omega)
    refine lv_aload_n hx hb dL_law_1082 rfl (lv_at hl 3 rfl) ?_
    refine lv_aload_n hx hb dL_law_1083 rfl (lv_at hl 4 rfl) ?_
    refine lv_iload hx hb dL_law_1084 (lv_at hl 0 rfl) ?_
    refine lv_iconst (v := 1) hx hb dL_law_1086 (by decide) ?_
    refine lv_iadd hx hb dL_law_1087 ?_
    refine lv_cst (y := nI (i + 1)) (nI_add i 1) ?_
    refine s_ld hx hb hX hbl hbA hS (j := i + 1) (by omega) hN dL_law_1088 ?_
    refine lv_cst (y := nI t) ev ?_
    refine lv_aload_n hx hb dL_law_1089 rfl (lv_at hl 1 rfl) ?_
    refine sc_g (As := [.ref (q 0), .int (nI t), .ref o]) (rest := []) ⟨hx, hb, hml, hown, hts⟩ (w_L_unexplainedBy l (P_l hP) htc hnc hac (D_l hD) (t := t) (k := k9) ht hk9 hB9) (vx_cwSW 3 hts gL_law_L_unexplainedBy rfl rfl rfl hdL_unexplainedBy ⟨Nat.le_of_ble_eq_true rfl, Nat.le_of_ble_eq_true rfl⟩) hK hS (fr_l hD hS hA) rfl hl.1 (Nat.le_of_ble_eq_true rfl) rfl dL_law_1090 ⟨by show _ ≤ 621274; omega, by show _ ≤ 7232283; omega⟩ (fun H1 locs hP1 hz1 hk1 hS => ?_)
    have hP : va_P D vwCl ((wX cI cZ q tc nc ac ch U Z B L F ++ [(o, .inl (cJ, 1, .inr (.inl (vp_updL f 0 (nI (un U Z (B t) nc)).toInt64))))]) ++ wM cI cZ r th tc nc ac ch V Y B L F) H1 := up_l hP hD hk1 hP1
    have hD : va_D (lA s) ((wX cI cZ q tc nc ac ch U Z B L F ++ [(o, .inl (cJ, 1, .inr (.inl (vp_updL f 0 (nI (un U Z (B t) nc)).toInt64))))]) ++ wM cI cZ r th tc nc ac ch V Y B L F) := va_D_re hD rfl
    clear hP1 hk1 hz1
    generalize H1 = H at hP hS ⊢
    refine lv_istore (lv' := [(5, .int 0), (4, .int (nI i)), (3, .ref o), (2, .ref (r 0)), (1, .ref (q 0)), (0, .ref b)]) hx hb dL_law_1093 hl (by decide) rfl (fun ls hl => ?_)
    refine lv_aload_n hx hb dL_law_1095 rfl (lv_at hl 3 rfl) ?_
    refine lv_aload_n hx hb dL_law_1096 rfl (lv_at hl 5 rfl) ?_
    refine lv_iload hx hb dL_law_1097 (lv_at hl 1 rfl) ?_
    refine lv_iconst (v := 1) hx hb dL_law_1099 (by decide) ?_
    refine lv_iadd hx hb dL_law_1100 ?_
    refine lv_cst (y := nI (i + 1)) (nI_add i 1) ?_
    refine s_ld hx hb hX hbl hbA hS (j := i + 1) (by omega) hN dL_law_1101 ?_
    refine lv_cst (y := nI t) ev ?_
    refine wcV_i (As := [.int (nI t)]) (rest := []) ⟨hx, hb, hml, hown, hts⟩ (w_M_unexplainedBy l (P_r hP) htc hnc hac (D_r hD) (t := t) ht) (cwV 1 hts gL_law_X1_unexplainedBy rfl rfl rfl hdX1_unexplainedBy ⟨Nat.le_of_ble_eq_true rfl, Nat.le_of_ble_eq_true rfl⟩) (va_recv hK hP (ci := 1) (q0 := 8) rfl rfl) hK2 hS (fr_r hD hS hA) rfl hl.1 (Nat.le_of_ble_eq_true rfl) rfl dL_law_1102 ⟨by show _ ≤ 621274; omega, by show _ ≤ 7232283; omega⟩ (fun H1 locs hP1 hz1 hk1 hS => ?_)
    have hP : va_P D vwCl ((wX cI cZ q tc nc ac ch U Z B L F ++ [(o, .inl (cJ, 1, .inr (.inl (vp_updL f 0 (nI (un U Z (B t) nc)).toInt64))))]) ++ wM cI cZ r 0 tc nc ac ch V Y B L F) H1 := up_r hP hD hk1 hP1
    have hD : va_D (lA s) ((wX cI cZ q tc nc ac ch U Z B L F ++ [(o, .inl (cJ, 1, .inr (.inl (vp_updL f 0 (nI (un U Z (B t) nc)).toInt64))))]) ++ wM cI cZ r 0 tc nc ac ch V Y B L F) := va_D_re hD rfl
    clear hP1 hk1 hz1
    generalize H1 = H at hP hS ⊢
    refine lv_cst (y := nI (un U Z (B t) nc)) (congrArg nI (un_cong hu hz (B t))) ?_
    refine lv_istore (lv' := [(6, .int (nI (un U Z (B t) nc))), (5, .int 0), (4, .int (nI i)), (3, .ref o), (2, .ref (r 0)), (1, .ref (q 0)), (0, .ref b)]) hx hb dL_law_1105 hl (by decide) rfl (fun ls hl => ?_)
    refine lv_aload_n hx hb dL_law_1107 rfl (lv_at hl 4 rfl) ?_
    refine pcV_i (As := []) (rest := []) ⟨hx, hb, hml, hown, hts⟩ (g_M_thrown l (P_r hP) htc hnc hac) (cwV 0 hts gL_law_X1_thrown rfl rfl rfl hdX1_thrown ⟨Nat.le_of_ble_eq_true rfl, Nat.le_of_ble_eq_true rfl⟩) (va_recv hK hP (ci := 1) (q0 := 8) rfl rfl) hK2 rfl hl.1 (Nat.le_of_ble_eq_true rfl) rfl dL_law_1108 ⟨by show _ ≤ 621274; omega, by show _ ≤ 7232283; omega⟩ ?_
    refine lv_iload hx hb dL_law_1111 (lv_at hl 1 rfl) ?_
    refine lv_ieq (tgt := 1118) hx hb rfl dL_law_1113 (by decide) ?_
    refine lv_iload hx hb dL_law_1118 (lv_at hl 1 rfl) ?_
    refine lv_if_ne (tgt := 1135) hx hb dL_law_1120 (by decide) (fun h0 => absurd rfl h0) (fun _ => ?_)
    refine lv_aload_n hx hb dL_law_1123 rfl (lv_at hl 3 rfl) ?_
    refine lv_iconst (v := 0) hx hb dL_law_1124 (by decide) ?_
    refine ll_ld hx hb hK hP 7 2 rfl rfl dL_law_1125 ?_
    refine lv_iload hx hb dL_law_1126 (lv_at hl 0 rfl) ?_
    refine lv_i2l (v := (nI (un U Z (B t) nc)).toInt64) hx hb dL_law_1128 rfl ?_
    refine lv_leq (tgt := 1135) hx hb rfl dL_law_1129 dL_law_1130 (by decide) ?_
    refine lv_goto (tgt := 1543) hx hb dL_law_1135 (by decide) ?_
    refine W.widen (k := cells + 9) (n := slots + 58) (by omega) (by omega) ?_
    exact kk _ _ _ ⟨0, tc, nc, ac, ch, U, Z, V, Y, B, L, F, (vp_updL f 0 (nI (un U Z (B t) nc)).toInt64), hS, hP, hD, htc, hnc, hac, hu, hz, hB, hB0, lv_sub hl [2, 3, 4, 5, 6] rfl⟩
set_option maxHeartbeats 4000000 in
set_option maxRecDepth 100000 in
theorem lc_votesFor (l : Launch) {p : Program} {e : Env} {s : State} {m : MethodId} {below : List Frame} {meth : Method} {c : Code} {b N : Nat} {xs : Nat → Int32} {D : va_G} {cI cZ cJ : ClassId} {q r : Nat → Nat} {o i : Nat} {H : Heap} {locs : List Loc} {ls : Array Slot} {cells slots : Nat} {Q : State → Prop} (C : LCtx l p s m c b N xs D cI cZ cJ) (h : LStt s D cI cZ cJ q r o b i H locs ls) (hi : i + 2 < N) (hcl : cells + 9 ≤ 621274) (hsl : slots + 58 ≤ 7232283) (kk : ∀ (H : Heap) (locs : List Loc) (ls : Array Slot), LStt s D cI cZ cJ q r o b i H locs ls → W p l e room_1 s m #[Value.ref b] below meth c H locs (cells + 9) (slots + 58) Q (F0 m 1543 ls [])) : W p l e room_1 s m #[Value.ref b] below meth c H locs cells slots Q (F0 m 1138 ls []) := by
  obtain ⟨hx, hb, hml, hown, hts, hX, hbl, hN, hl0, hK, hE0⟩ := C
  obtain ⟨th, tc, nc, ac, ch, U, Z, V, Y, B, L, F, f, hS, hP, hD, htc, hnc, hac, hu, hz, hB, hB0, hl⟩ := h
  have hK2 : va_K D vwCl (tyA cI cZ) s := hK.sub [0, 1] rfl
  have hA : ∀ q : Nat, s.heap.size ≤ q → lA s q := fun _ h => h
  have hbA : ¬ lA s b := Nat.not_le.mpr hbl
  have hpw := pw_in htc
  rcases ar_th (xs (i + 1)) tc with hv | ⟨t, ht, ev⟩
  · skip
    refine lv_aload_n hx hb dL_law_1138 rfl (lv_at hl 3 rfl) ?_
    refine lv_aload_n hx hb dL_law_1139 rfl (lv_at hl 4 rfl) ?_
    refine lv_iload hx hb dL_law_1140 (lv_at hl 0 rfl) ?_
    refine lv_iconst (v := 1) hx hb dL_law_1142 (by decide) ?_
    refine lv_iadd hx hb dL_law_1143 ?_
    refine lv_cst (y := nI (i + 1)) (nI_add i 1) ?_
    refine s_ld hx hb hX hbl hbA hS (j := i + 1) (by omega) hN dL_law_1144 ?_
    refine lv_aload_n hx hb dL_law_1145 rfl (lv_at hl 1 rfl) ?_
    refine sc_b (k := 1) (As := [.ref (q 0), .int (xs (i + 1)), .ref o]) (rest := []) ⟨hx, hb, hml, hown, hts⟩ (wx_L_votesFor l hl0 (P_l hP) htc hnc hac (v := xs (i + 1)) hv) (vx_cwSW 3 hts gL_law_L_votesFor rfl rfl rfl hdL_votesFor ⟨Nat.le_of_ble_eq_true rfl, Nat.le_of_ble_eq_true rfl⟩) hK (xE_law hE0 hS) hS rfl hl.1 (Nat.le_of_ble_eq_true rfl) rfl dL_law_1146 ⟨by show _ ≤ 621274; omega, by show _ ≤ 7232283; omega⟩ (fun H1 locs hz1 hk1 hS => ?_)
    have hP : va_P D vwCl ((wX cI cZ q tc nc ac ch U Z B L F ++ [(o, .inl (cJ, 1, .inr (.inl f)))]) ++ wM cI cZ r th tc nc ac ch V Y B L F) H1 := grow_P hP hk1
    clear hk1 hz1
    generalize H1 = H at hP hS ⊢
    refine lv_istore (lv' := [(5, .int 1), (4, .int (nI i)), (3, .ref o), (2, .ref (r 0)), (1, .ref (q 0)), (0, .ref b)]) hx hb dL_law_1149 hl (by decide) rfl (fun ls hl => ?_)
    refine lv_aload_n hx hb dL_law_1151 rfl (lv_at hl 3 rfl) ?_
    refine lv_aload_n hx hb dL_law_1152 rfl (lv_at hl 5 rfl) ?_
    refine lv_iload hx hb dL_law_1153 (lv_at hl 1 rfl) ?_
    refine lv_iconst (v := 1) hx hb dL_law_1155 (by decide) ?_
    refine lv_iadd hx hb dL_law_1156 ?_
    refine lv_cst (y := nI (i + 1)) (nI_add i 1) ?_
    refine s_ld hx hb hX hbl hbA hS (j := i + 1) (by omega) hN dL_law_1157 ?_
    refine wcV_i (As := [.int (xs (i + 1))]) (rest := []) ⟨hx, hb, hml, hown, hts⟩ (wb_M_votesFor l (P_r hP) htc hnc hac (D_r hD) (v := xs (i + 1)) hv) (cwV 1 hts gL_law_X1_votesFor rfl rfl rfl hdX1_votesFor ⟨Nat.le_of_ble_eq_true rfl, Nat.le_of_ble_eq_true rfl⟩) (va_recv hK hP (ci := 1) (q0 := 8) rfl rfl) hK2 hS (fr_r hD hS hA) rfl hl.1 (Nat.le_of_ble_eq_true rfl) rfl dL_law_1158 ⟨by show _ ≤ 621274; omega, by show _ ≤ 7232283; omega⟩ (fun H1 locs hP1 hz1 hk1 hS => ?_)
    have hP : va_P D vwCl ((wX cI cZ q tc nc ac ch U Z B L F ++ [(o, .inl (cJ, 1, .inr (.inl f)))]) ++ wM cI cZ r 1 tc nc ac ch V Y B L F) H1 := up_r hP hD hk1 hP1
    have hD : va_D (lA s) ((wX cI cZ q tc nc ac ch U Z B L F ++ [(o, .inl (cJ, 1, .inr (.inl f)))]) ++ wM cI cZ r 1 tc nc ac ch V Y B L F) := va_D_re hD rfl
    clear hP1 hk1 hz1
    generalize H1 = H at hP hS ⊢
    refine lv_istore (lv' := [(6, .int 0), (5, .int 1), (4, .int (nI i)), (3, .ref o), (2, .ref (r 0)), (1, .ref (q 0)), (0, .ref b)]) hx hb dL_law_1161 hl (by decide) rfl (fun ls hl => ?_)
    refine lv_aload_n hx hb dL_law_1163 rfl (lv_at hl 4 rfl) ?_
    refine pcV_i (As := []) (rest := []) ⟨hx, hb, hml, hown, hts⟩ (g_M_thrown l (P_r hP) htc hnc hac) (cwV 0 hts gL_law_X1_thrown rfl rfl rfl hdX1_thrown ⟨Nat.le_of_ble_eq_true rfl, Nat.le_of_ble_eq_true rfl⟩) (va_recv hK hP (ci := 1) (q0 := 8) rfl rfl) hK2 rfl hl.1 (Nat.le_of_ble_eq_true rfl) rfl dL_law_1164 ⟨by show _ ≤ 621274; omega, by show _ ≤ 7232283; omega⟩ ?_
    refine lv_iload hx hb dL_law_1167 (lv_at hl 1 rfl) ?_
    refine lv_ieq (tgt := 1174) hx hb rfl dL_law_1169 (by decide) ?_
    refine lv_iload hx hb dL_law_1174 (lv_at hl 1 rfl) ?_
    refine lv_if_ne (tgt := 1191) hx hb dL_law_1176 (by decide) (fun _ => ?_) (fun h0 => absurd h0 (by decide))
    refine lv_goto (tgt := 1543) hx hb dL_law_1191 (by decide) ?_
    refine W.widen (k := cells + 9) (n := slots + 58) (by omega) (by omega) ?_
    exact kk _ _ _ ⟨1, tc, nc, ac, ch, U, Z, V, Y, B, L, F, f, hS, hP, hD, htc, hnc, hac, hu, hz, hB, hB0, lv_sub hl [2, 3, 4, 5, 6] rfl⟩
  · skip
    refine lv_aload_n hx hb dL_law_1138 rfl (lv_at hl 3 rfl) ?_
    refine lv_aload_n hx hb dL_law_1139 rfl (lv_at hl 4 rfl) ?_
    refine lv_iload hx hb dL_law_1140 (lv_at hl 0 rfl) ?_
    refine lv_iconst (v := 1) hx hb dL_law_1142 (by decide) ?_
    refine lv_iadd hx hb dL_law_1143 ?_
    refine lv_cst (y := nI (i + 1)) (nI_add i 1) ?_
    refine s_ld hx hb hX hbl hbA hS (j := i + 1) (by omega) hN dL_law_1144 ?_
    refine lv_cst (y := nI t) ev ?_
    refine lv_aload_n hx hb dL_law_1145 rfl (lv_at hl 1 rfl) ?_
    refine sc_g (As := [.ref (q 0), .int (nI t), .ref o]) (rest := []) ⟨hx, hb, hml, hown, hts⟩ (w_L_votesFor l (P_l hP) htc hnc hac (D_l hD) (t := t) ht) (vx_cwSW 3 hts gL_law_L_votesFor rfl rfl rfl hdL_votesFor ⟨Nat.le_of_ble_eq_true rfl, Nat.le_of_ble_eq_true rfl⟩) hK hS (fr_l hD hS hA) rfl hl.1 (Nat.le_of_ble_eq_true rfl) rfl dL_law_1146 ⟨by show _ ≤ 621274; omega, by show _ ≤ 7232283; omega⟩ (fun H1 locs hP1 hz1 hk1 hS => ?_)
    have hP : va_P D vwCl ((wX cI cZ q tc nc ac ch U Z B L F ++ [(o, .inl (cJ, 1, .inr (.inl (vp_updL f 0 (nI (ct (fun a => ho (B a) (nI t)) ac)).toInt64))))]) ++ wM cI cZ r th tc nc ac ch V Y B L F) H1 := up_l hP hD hk1 hP1
    have hD : va_D (lA s) ((wX cI cZ q tc nc ac ch U Z B L F ++ [(o, .inl (cJ, 1, .inr (.inl (vp_updL f 0 (nI (ct (fun a => ho (B a) (nI t)) ac)).toInt64))))]) ++ wM cI cZ r th tc nc ac ch V Y B L F) := va_D_re hD rfl
    clear hP1 hk1 hz1
    generalize H1 = H at hP hS ⊢
    refine lv_istore (lv' := [(5, .int 0), (4, .int (nI i)), (3, .ref o), (2, .ref (r 0)), (1, .ref (q 0)), (0, .ref b)]) hx hb dL_law_1149 hl (by decide) rfl (fun ls hl => ?_)
    refine lv_aload_n hx hb dL_law_1151 rfl (lv_at hl 3 rfl) ?_
    refine lv_aload_n hx hb dL_law_1152 rfl (lv_at hl 5 rfl) ?_
    refine lv_iload hx hb dL_law_1153 (lv_at hl 1 rfl) ?_
    refine lv_iconst (v := 1) hx hb dL_law_1155 (by decide) ?_
    refine lv_iadd hx hb dL_law_1156 ?_
    refine lv_cst (y := nI (i + 1)) (nI_add i 1) ?_
    refine s_ld hx hb hX hbl hbA hS (j := i + 1) (by omega) hN dL_law_1157 ?_
    refine lv_cst (y := nI t) ev ?_
    refine wcV_i (As := [.int (nI t)]) (rest := []) ⟨hx, hb, hml, hown, hts⟩ (w_M_votesFor l (P_r hP) htc hnc hac (D_r hD) (t := t) ht) (cwV 1 hts gL_law_X1_votesFor rfl rfl rfl hdX1_votesFor ⟨Nat.le_of_ble_eq_true rfl, Nat.le_of_ble_eq_true rfl⟩) (va_recv hK hP (ci := 1) (q0 := 8) rfl rfl) hK2 hS (fr_r hD hS hA) rfl hl.1 (Nat.le_of_ble_eq_true rfl) rfl dL_law_1158 ⟨by show _ ≤ 621274; omega, by show _ ≤ 7232283; omega⟩ (fun H1 locs hP1 hz1 hk1 hS => ?_)
    have hP : va_P D vwCl ((wX cI cZ q tc nc ac ch U Z B L F ++ [(o, .inl (cJ, 1, .inr (.inl (vp_updL f 0 (nI (ct (fun a => ho (B a) (nI t)) ac)).toInt64))))]) ++ wM cI cZ r 0 tc nc ac ch V Y B L F) H1 := up_r hP hD hk1 hP1
    have hD : va_D (lA s) ((wX cI cZ q tc nc ac ch U Z B L F ++ [(o, .inl (cJ, 1, .inr (.inl (vp_updL f 0 (nI (ct (fun a => ho (B a) (nI t)) ac)).toInt64))))]) ++ wM cI cZ r 0 tc nc ac ch V Y B L F) := va_D_re hD rfl
    clear hP1 hk1 hz1
    generalize H1 = H at hP hS ⊢
    refine lv_cst (y := nI (ct (fun a => ho (B a) (nI t)) ac)) (congrArg nI (vt_eq B (by omega : t < 32) ac)) ?_
    refine lv_istore (lv' := [(6, .int (nI (ct (fun a => ho (B a) (nI t)) ac))), (5, .int 0), (4, .int (nI i)), (3, .ref o), (2, .ref (r 0)), (1, .ref (q 0)), (0, .ref b)]) hx hb dL_law_1161 hl (by decide) rfl (fun ls hl => ?_)
    refine lv_aload_n hx hb dL_law_1163 rfl (lv_at hl 4 rfl) ?_
    refine pcV_i (As := []) (rest := []) ⟨hx, hb, hml, hown, hts⟩ (g_M_thrown l (P_r hP) htc hnc hac) (cwV 0 hts gL_law_X1_thrown rfl rfl rfl hdX1_thrown ⟨Nat.le_of_ble_eq_true rfl, Nat.le_of_ble_eq_true rfl⟩) (va_recv hK hP (ci := 1) (q0 := 8) rfl rfl) hK2 rfl hl.1 (Nat.le_of_ble_eq_true rfl) rfl dL_law_1164 ⟨by show _ ≤ 621274; omega, by show _ ≤ 7232283; omega⟩ ?_
    refine lv_iload hx hb dL_law_1167 (lv_at hl 1 rfl) ?_
    refine lv_ieq (tgt := 1174) hx hb rfl dL_law_1169 (by decide) ?_
    refine lv_iload hx hb dL_law_1174 (lv_at hl 1 rfl) ?_
    refine lv_if_ne (tgt := 1191) hx hb dL_law_1176 (by decide) (fun h0 => absurd rfl h0) (fun _ => ?_)
    refine lv_aload_n hx hb dL_law_1179 rfl (lv_at hl 3 rfl) ?_
    refine lv_iconst (v := 0) hx hb dL_law_1180 (by decide) ?_
    refine ll_ld hx hb hK hP 7 2 rfl rfl dL_law_1181 ?_
    refine lv_iload hx hb dL_law_1182 (lv_at hl 0 rfl) ?_
    refine lv_i2l (v := (nI (ct (fun a => ho (B a) (nI t)) ac)).toInt64) hx hb dL_law_1184 rfl ?_
    refine lv_leq (tgt := 1191) hx hb rfl dL_law_1185 dL_law_1186 (by decide) ?_
    refine lv_goto (tgt := 1543) hx hb dL_law_1191 (by decide) ?_
    refine W.widen (k := cells + 9) (n := slots + 58) (by omega) (by omega) ?_
    exact kk _ _ _ ⟨0, tc, nc, ac, ch, U, Z, V, Y, B, L, F, (vp_updL f 0 (nI (ct (fun a => ho (B a) (nI t)) ac)).toInt64), hS, hP, hD, htc, hnc, hac, hu, hz, hB, hB0, lv_sub hl [2, 3, 4, 5, 6] rfl⟩
set_option maxHeartbeats 4000000 in
set_option maxRecDepth 100000 in
theorem lc_vote (l : Launch) {p : Program} {e : Env} {s : State} {m : MethodId} {below : List Frame} {meth : Method} {c : Code} {b N : Nat} {xs : Nat → Int32} {D : va_G} {cI cZ cJ : ClassId} {q r : Nat → Nat} {o i : Nat} {H : Heap} {locs : List Loc} {ls : Array Slot} {cells slots : Nat} {Q : State → Prop} (C : LCtx l p s m c b N xs D cI cZ cJ) (h : LStt s D cI cZ cJ q r o b i H locs ls) (hi : i + 2 < N) (hcl : cells + 9 ≤ 621274) (hsl : slots + 58 ≤ 7232283) (kk : ∀ (H : Heap) (locs : List Loc) (ls : Array Slot), LStt s D cI cZ cJ q r o b i H locs ls → W p l e room_1 s m #[Value.ref b] below meth c H locs (cells + 9) (slots + 58) Q (F0 m 1543 ls [])) : W p l e room_1 s m #[Value.ref b] below meth c H locs cells slots Q (F0 m 1194 ls []) := by
  obtain ⟨hx, hb, hml, hown, hts, hX, hbl, hN, hl0, hK, hE0⟩ := C
  obtain ⟨th, tc, nc, ac, ch, U, Z, V, Y, B, L, F, f, hS, hP, hD, htc, hnc, hac, hu, hz, hB, hB0, hl⟩ := h
  have hK2 : va_K D vwCl (tyA cI cZ) s := hK.sub [0, 1] rfl
  have hA : ∀ q : Nat, s.heap.size ≤ q → lA s q := fun _ h => h
  have hbA : ¬ lA s b := Nat.not_le.mpr hbl
  have hpw := pw_in htc
  refine lv_aload_n hx hb dL_law_1194 rfl (lv_at hl 3 rfl) ?_
  refine pcV_i (As := []) (rest := []) ⟨hx, hb, hml, hown, hts⟩ (g_X_vote l (P_l (P_l hP)) htc hnc hac ) (cwV 0 hts gL_law_X0_vote rfl rfl rfl hdX0_vote ⟨Nat.le_of_ble_eq_true rfl, Nat.le_of_ble_eq_true rfl⟩) (va_recv hK hP (ci := 0) (q0 := 0) rfl rfl) hK2 rfl hl.1 (Nat.le_of_ble_eq_true rfl) rfl dL_law_1195 ⟨by show _ ≤ 621274; omega, by show _ ≤ 7232283; omega⟩ ?_
  refine lv_aload_n hx hb dL_law_1198 rfl (lv_at hl 2 rfl) ?_
  refine wcV_i (As := []) (rest := [.int (orf (fun t => decide (¬ nI (ct (fun a => ho (B a) (nI t)) ac) * 2 ≤ nI ac)) (fun t => (1 : Int32) <<< (nI t &&& 31)) tc)]) ⟨hx, hb, hml, hown, hts⟩ (w_M_vote l (P_r hP) htc hnc hac (D_r hD)  ) (cwV 0 hts gL_law_X1_vote rfl rfl rfl hdX1_vote ⟨Nat.le_of_ble_eq_true rfl, Nat.le_of_ble_eq_true rfl⟩) (va_recv hK hP (ci := 1) (q0 := 8) rfl rfl) hK2 hS (fr_r hD hS hA) rfl hl.1 (Nat.le_of_ble_eq_true rfl) rfl dL_law_1199 ⟨by show _ ≤ 621274; omega, by show _ ≤ 7232283; omega⟩ (fun H1 locs hP1 hz1 hk1 hS => ?_)
  have hP : va_P D vwCl ((wX cI cZ q tc nc ac ch U Z B L F ++ [(o, .inl (cJ, 1, .inr (.inl f)))]) ++ wM cI cZ r 0 tc nc ac ch V Y B L F) H1 := up_r hP hD hk1 hP1
  have hD : va_D (lA s) ((wX cI cZ q tc nc ac ch U Z B L F ++ [(o, .inl (cJ, 1, .inr (.inl f)))]) ++ wM cI cZ r 0 tc nc ac ch V Y B L F) := va_D_re hD rfl
  clear hP1 hk1 hz1
  generalize H1 = H at hP hS ⊢
  refine lv_cst (y := orf (fun t => decide (¬ nI (ct (fun a => ho (B a) (nI t)) ac) * 2 ≤ nI ac)) (fun t => (1 : Int32) <<< (nI t &&& 31)) tc) (vo_eq B ac (by omega : tc ≤ 32)) ?_
  refine lv_ieq (tgt := 1543) hx hb rfl dL_law_1202 (by decide) ?_
  refine W.widen (k := cells + 9) (n := slots + 58) (by omega) (by omega) ?_
  exact kk _ _ _ ⟨0, tc, nc, ac, ch, U, Z, V, Y, B, L, F, f, hS, hP, hD, htc, hnc, hac, hu, hz, hB, hB0, lv_sub hl [0, 1, 2, 3, 4] rfl⟩
set_option maxHeartbeats 4000000 in
set_option maxRecDepth 100000 in
theorem lc_changesOfMind (l : Launch) {p : Program} {e : Env} {s : State} {m : MethodId} {below : List Frame} {meth : Method} {c : Code} {b N : Nat} {xs : Nat → Int32} {D : va_G} {cI cZ cJ : ClassId} {q r : Nat → Nat} {o i : Nat} {H : Heap} {locs : List Loc} {ls : Array Slot} {cells slots : Nat} {Q : State → Prop} (C : LCtx l p s m c b N xs D cI cZ cJ) (h : LStt s D cI cZ cJ q r o b i H locs ls) (hi : i + 2 < N) (hcl : cells + 9 ≤ 621274) (hsl : slots + 58 ≤ 7232283) (kk : ∀ (H : Heap) (locs : List Loc) (ls : Array Slot), LStt s D cI cZ cJ q r o b i H locs ls → W p l e room_1 s m #[Value.ref b] below meth c H locs (cells + 9) (slots + 58) Q (F0 m 1543 ls [])) : W p l e room_1 s m #[Value.ref b] below meth c H locs cells slots Q (F0 m 1207 ls []) := by
  obtain ⟨hx, hb, hml, hown, hts, hX, hbl, hN, hl0, hK, hE0⟩ := C
  obtain ⟨th, tc, nc, ac, ch, U, Z, V, Y, B, L, F, f, hS, hP, hD, htc, hnc, hac, hu, hz, hB, hB0, hl⟩ := h
  have hK2 : va_K D vwCl (tyA cI cZ) s := hK.sub [0, 1] rfl
  have hA : ∀ q : Nat, s.heap.size ≤ q → lA s q := fun _ h => h
  have hbA : ¬ lA s b := Nat.not_le.mpr hbl
  have hpw := pw_in htc
  refine lv_aload_n hx hb dL_law_1207 rfl (lv_at hl 3 rfl) ?_
  refine pcV_i (As := []) (rest := []) ⟨hx, hb, hml, hown, hts⟩ (g_X_changesOfMind l (P_l (P_l hP)) htc hnc hac ) (cwV 0 hts gL_law_X0_changesOfMind rfl rfl rfl hdX0_changesOfMind ⟨Nat.le_of_ble_eq_true rfl, Nat.le_of_ble_eq_true rfl⟩) (va_recv hK hP (ci := 0) (q0 := 0) rfl rfl) hK2 rfl hl.1 (Nat.le_of_ble_eq_true rfl) rfl dL_law_1208 ⟨by show _ ≤ 621274; omega, by show _ ≤ 7232283; omega⟩ ?_
  refine lv_aload_n hx hb dL_law_1211 rfl (lv_at hl 2 rfl) ?_
  refine wcV_i (As := []) (rest := [.int (ch)]) ⟨hx, hb, hml, hown, hts⟩ (w_M_changesOfMind l (P_r hP) htc hnc hac (D_r hD)  ) (cwV 0 hts gL_law_X1_changesOfMind rfl rfl rfl hdX1_changesOfMind ⟨Nat.le_of_ble_eq_true rfl, Nat.le_of_ble_eq_true rfl⟩) (va_recv hK hP (ci := 1) (q0 := 8) rfl rfl) hK2 hS (fr_r hD hS hA) rfl hl.1 (Nat.le_of_ble_eq_true rfl) rfl dL_law_1212 ⟨by show _ ≤ 621274; omega, by show _ ≤ 7232283; omega⟩ (fun H1 locs hP1 hz1 hk1 hS => ?_)
  have hP : va_P D vwCl ((wX cI cZ q tc nc ac ch U Z B L F ++ [(o, .inl (cJ, 1, .inr (.inl f)))]) ++ wM cI cZ r 0 tc nc ac ch V Y B L F) H1 := up_r hP hD hk1 hP1
  have hD : va_D (lA s) ((wX cI cZ q tc nc ac ch U Z B L F ++ [(o, .inl (cJ, 1, .inr (.inl f)))]) ++ wM cI cZ r 0 tc nc ac ch V Y B L F) := va_D_re hD rfl
  clear hP1 hk1 hz1
  generalize H1 = H at hP hS ⊢
  refine lv_ieq (tgt := 1543) hx hb rfl dL_law_1215 (by decide) ?_
  refine W.widen (k := cells + 9) (n := slots + 58) (by omega) (by omega) ?_
  exact kk _ _ _ ⟨0, tc, nc, ac, ch, U, Z, V, Y, B, L, F, f, hS, hP, hD, htc, hnc, hac, hu, hz, hB, hB0, lv_sub hl [0, 1, 2, 3, 4] rfl⟩
set_option maxHeartbeats 4000000 in
set_option maxRecDepth 100000 in
theorem lc_explainsAll (l : Launch) {p : Program} {e : Env} {s : State} {m : MethodId} {below : List Frame} {meth : Method} {c : Code} {b N : Nat} {xs : Nat → Int32} {D : va_G} {cI cZ cJ : ClassId} {q r : Nat → Nat} {o i : Nat} {H : Heap} {locs : List Loc} {ls : Array Slot} {cells slots : Nat} {Q : State → Prop} (C : LCtx l p s m c b N xs D cI cZ cJ) (h : LStt s D cI cZ cJ q r o b i H locs ls) (hi : i + 2 < N) (hcl : cells + 9 ≤ 621274) (hsl : slots + 58 ≤ 7232283) (kk : ∀ (H : Heap) (locs : List Loc) (ls : Array Slot), LStt s D cI cZ cJ q r o b i H locs ls → W p l e room_1 s m #[Value.ref b] below meth c H locs (cells + 9) (slots + 58) Q (F0 m 1543 ls [])) : W p l e room_1 s m #[Value.ref b] below meth c H locs cells slots Q (F0 m 1220 ls []) := by
  obtain ⟨hx, hb, hml, hown, hts, hX, hbl, hN, hl0, hK, hE0⟩ := C
  obtain ⟨th, tc, nc, ac, ch, U, Z, V, Y, B, L, F, f, hS, hP, hD, htc, hnc, hac, hu, hz, hB, hB0, hl⟩ := h
  have hK2 : va_K D vwCl (tyA cI cZ) s := hK.sub [0, 1] rfl
  have hA : ∀ q : Nat, s.heap.size ≤ q → lA s q := fun _ h => h
  have hbA : ¬ lA s b := Nat.not_le.mpr hbl
  have hpw := pw_in htc
  rcases ar_set (xs (i + 1)) hpw.1 with hv | ⟨k, hk, ev⟩
  · skip
    refine lv_aload_n hx hb dL_law_1220 rfl (lv_at hl 3 rfl) ?_
    refine lv_aload_n hx hb dL_law_1221 rfl (lv_at hl 4 rfl) ?_
    refine lv_iload hx hb dL_law_1222 (lv_at hl 0 rfl) ?_
    refine lv_iconst (v := 1) hx hb dL_law_1224 (by decide) ?_
    refine lv_iadd hx hb dL_law_1225 ?_
    refine lv_cst (y := nI (i + 1)) (nI_add i 1) ?_
    refine s_ld hx hb hX hbl hbA hS (j := i + 1) (by omega) hN dL_law_1226 ?_
    refine lv_aload_n hx hb dL_law_1227 rfl (lv_at hl 1 rfl) ?_
    refine sc_b (k := 1) (As := [.ref (q 0), .int (xs (i + 1)), .ref o]) (rest := []) ⟨hx, hb, hml, hown, hts⟩ (wx_L_explainsAll l hl0 (P_l hP) htc hnc hac (v := xs (i + 1)) hv) (vx_cwSW 3 hts gL_law_L_explainsAll rfl rfl rfl hdL_explainsAll ⟨Nat.le_of_ble_eq_true rfl, Nat.le_of_ble_eq_true rfl⟩) hK (xE_law hE0 hS) hS rfl hl.1 (Nat.le_of_ble_eq_true rfl) rfl dL_law_1228 ⟨by show _ ≤ 621274; omega, by show _ ≤ 7232283; omega⟩ (fun H1 locs hz1 hk1 hS => ?_)
    have hP : va_P D vwCl ((wX cI cZ q tc nc ac ch U Z B L F ++ [(o, .inl (cJ, 1, .inr (.inl f)))]) ++ wM cI cZ r th tc nc ac ch V Y B L F) H1 := grow_P hP hk1
    clear hk1 hz1
    generalize H1 = H at hP hS ⊢
    refine lv_istore (lv' := [(5, .int 1), (4, .int (nI i)), (3, .ref o), (2, .ref (r 0)), (1, .ref (q 0)), (0, .ref b)]) hx hb dL_law_1231 hl (by decide) rfl (fun ls hl => ?_)
    refine lv_aload_n hx hb dL_law_1233 rfl (lv_at hl 3 rfl) ?_
    refine lv_aload_n hx hb dL_law_1234 rfl (lv_at hl 5 rfl) ?_
    refine lv_iload hx hb dL_law_1235 (lv_at hl 1 rfl) ?_
    refine lv_iconst (v := 1) hx hb dL_law_1237 (by decide) ?_
    refine lv_iadd hx hb dL_law_1238 ?_
    refine lv_cst (y := nI (i + 1)) (nI_add i 1) ?_
    refine s_ld hx hb hX hbl hbA hS (j := i + 1) (by omega) hN dL_law_1239 ?_
    refine wcV_i (As := [.int (xs (i + 1))]) (rest := []) ⟨hx, hb, hml, hown, hts⟩ (wb_M_explainsAll l (P_r hP) htc hnc hac (D_r hD) (v := xs (i + 1)) hv) (cwV 1 hts gL_law_X1_explainsAll rfl rfl rfl hdX1_explainsAll ⟨Nat.le_of_ble_eq_true rfl, Nat.le_of_ble_eq_true rfl⟩) (va_recv hK hP (ci := 1) (q0 := 8) rfl rfl) hK2 hS (fr_r hD hS hA) rfl hl.1 (Nat.le_of_ble_eq_true rfl) rfl dL_law_1240 ⟨by show _ ≤ 621274; omega, by show _ ≤ 7232283; omega⟩ (fun H1 locs hP1 hz1 hk1 hS => ?_)
    have hP : va_P D vwCl ((wX cI cZ q tc nc ac ch U Z B L F ++ [(o, .inl (cJ, 1, .inr (.inl f)))]) ++ wM cI cZ r 1 tc nc ac ch V Y B L F) H1 := up_r hP hD hk1 hP1
    have hD : va_D (lA s) ((wX cI cZ q tc nc ac ch U Z B L F ++ [(o, .inl (cJ, 1, .inr (.inl f)))]) ++ wM cI cZ r 1 tc nc ac ch V Y B L F) := va_D_re hD rfl
    clear hP1 hk1 hz1
    generalize H1 = H at hP hS ⊢
    refine lv_istore (lv' := [(6, .int 0), (5, .int 1), (4, .int (nI i)), (3, .ref o), (2, .ref (r 0)), (1, .ref (q 0)), (0, .ref b)]) hx hb dL_law_1243 hl (by decide) rfl (fun ls hl => ?_)
    refine lv_aload_n hx hb dL_law_1245 rfl (lv_at hl 4 rfl) ?_
    refine pcV_i (As := []) (rest := []) ⟨hx, hb, hml, hown, hts⟩ (g_M_thrown l (P_r hP) htc hnc hac) (cwV 0 hts gL_law_X1_thrown rfl rfl rfl hdX1_thrown ⟨Nat.le_of_ble_eq_true rfl, Nat.le_of_ble_eq_true rfl⟩) (va_recv hK hP (ci := 1) (q0 := 8) rfl rfl) hK2 rfl hl.1 (Nat.le_of_ble_eq_true rfl) rfl dL_law_1246 ⟨by show _ ≤ 621274; omega, by show _ ≤ 7232283; omega⟩ ?_
    refine lv_iload hx hb dL_law_1249 (lv_at hl 1 rfl) ?_
    refine lv_ieq (tgt := 1256) hx hb rfl dL_law_1251 (by decide) ?_
    refine lv_iload hx hb dL_law_1256 (lv_at hl 1 rfl) ?_
    refine lv_if_ne (tgt := 1280) hx hb dL_law_1258 (by decide) (fun _ => ?_) (fun h0 => absurd h0 (by decide))
    refine lv_goto (tgt := 1543) hx hb dL_law_1280 (by decide) ?_
    refine W.widen (k := cells + 9) (n := slots + 58) (by omega) (by omega) ?_
    exact kk _ _ _ ⟨1, tc, nc, ac, ch, U, Z, V, Y, B, L, F, f, hS, hP, hD, htc, hnc, hac, hu, hz, hB, hB0, lv_sub hl [2, 3, 4, 5, 6] rfl⟩
  · skip
    refine lv_aload_n hx hb dL_law_1220 rfl (lv_at hl 3 rfl) ?_
    refine lv_aload_n hx hb dL_law_1221 rfl (lv_at hl 4 rfl) ?_
    refine lv_iload hx hb dL_law_1222 (lv_at hl 0 rfl) ?_
    refine lv_iconst (v := 1) hx hb dL_law_1224 (by decide) ?_
    refine lv_iadd hx hb dL_law_1225 ?_
    refine lv_cst (y := nI (i + 1)) (nI_add i 1) ?_
    refine s_ld hx hb hX hbl hbA hS (j := i + 1) (by omega) hN dL_law_1226 ?_
    refine lv_cst (y := nI k) ev ?_
    refine lv_aload_n hx hb dL_law_1227 rfl (lv_at hl 1 rfl) ?_
    refine sc_g (As := [.ref (q 0), .int (nI k), .ref o]) (rest := []) ⟨hx, hb, hml, hown, hts⟩ (w_L_explainsAll l (P_l hP) htc hnc hac (D_l hD) (k := k) hk) (vx_cwSW 3 hts gL_law_L_explainsAll rfl rfl rfl hdL_explainsAll ⟨Nat.le_of_ble_eq_true rfl, Nat.le_of_ble_eq_true rfl⟩) hK hS (fr_l hD hS hA) rfl hl.1 (Nat.le_of_ble_eq_true rfl) rfl dL_law_1228 ⟨by show _ ≤ 621274; omega, by show _ ≤ 7232283; omega⟩ (fun H1 locs hP1 hz1 hk1 hS => ?_)
    have hP : va_P D vwCl ((wX cI cZ q tc nc ac ch U Z B L F ++ [(o, .inl (cJ, 1, .inr (.inl (vp_updL f 0 (bI (zz U Z nc k)).toInt64))))]) ++ wM cI cZ r th tc nc ac ch V Y B L F) H1 := up_l hP hD hk1 hP1
    have hD : va_D (lA s) ((wX cI cZ q tc nc ac ch U Z B L F ++ [(o, .inl (cJ, 1, .inr (.inl (vp_updL f 0 (bI (zz U Z nc k)).toInt64))))]) ++ wM cI cZ r th tc nc ac ch V Y B L F) := va_D_re hD rfl
    clear hP1 hk1 hz1
    generalize H1 = H at hP hS ⊢
    refine lv_istore (lv' := [(5, .int 0), (4, .int (nI i)), (3, .ref o), (2, .ref (r 0)), (1, .ref (q 0)), (0, .ref b)]) hx hb dL_law_1231 hl (by decide) rfl (fun ls hl => ?_)
    refine lv_aload_n hx hb dL_law_1233 rfl (lv_at hl 3 rfl) ?_
    refine lv_aload_n hx hb dL_law_1234 rfl (lv_at hl 5 rfl) ?_
    refine lv_iload hx hb dL_law_1235 (lv_at hl 1 rfl) ?_
    refine lv_iconst (v := 1) hx hb dL_law_1237 (by decide) ?_
    refine lv_iadd hx hb dL_law_1238 ?_
    refine lv_cst (y := nI (i + 1)) (nI_add i 1) ?_
    refine s_ld hx hb hX hbl hbA hS (j := i + 1) (by omega) hN dL_law_1239 ?_
    refine lv_cst (y := nI k) ev ?_
    refine wcV_i (As := [.int (nI k)]) (rest := []) ⟨hx, hb, hml, hown, hts⟩ (w_M_explainsAll l (P_r hP) htc hnc hac (D_r hD) (k := k) hk) (cwV 1 hts gL_law_X1_explainsAll rfl rfl rfl hdX1_explainsAll ⟨Nat.le_of_ble_eq_true rfl, Nat.le_of_ble_eq_true rfl⟩) (va_recv hK hP (ci := 1) (q0 := 8) rfl rfl) hK2 hS (fr_r hD hS hA) rfl hl.1 (Nat.le_of_ble_eq_true rfl) rfl dL_law_1240 ⟨by show _ ≤ 621274; omega, by show _ ≤ 7232283; omega⟩ (fun H1 locs hP1 hz1 hk1 hS => ?_)
    have hP : va_P D vwCl ((wX cI cZ q tc nc ac ch U Z B L F ++ [(o, .inl (cJ, 1, .inr (.inl (vp_updL f 0 (bI (zz U Z nc k)).toInt64))))]) ++ wM cI cZ r 0 tc nc ac ch V Y B L F) H1 := up_r hP hD hk1 hP1
    have hD : va_D (lA s) ((wX cI cZ q tc nc ac ch U Z B L F ++ [(o, .inl (cJ, 1, .inr (.inl (vp_updL f 0 (bI (zz U Z nc k)).toInt64))))]) ++ wM cI cZ r 0 tc nc ac ch V Y B L F) := va_D_re hD rfl
    clear hP1 hk1 hz1
    generalize H1 = H at hP hS ⊢
    refine lv_cst (y := bI (zz U Z nc k)) (congrArg bI (zz_cong hu hz k)) ?_
    refine lv_istore (lv' := [(6, .int (bI (zz U Z nc k))), (5, .int 0), (4, .int (nI i)), (3, .ref o), (2, .ref (r 0)), (1, .ref (q 0)), (0, .ref b)]) hx hb dL_law_1243 hl (by decide) rfl (fun ls hl => ?_)
    refine lv_aload_n hx hb dL_law_1245 rfl (lv_at hl 4 rfl) ?_
    refine pcV_i (As := []) (rest := []) ⟨hx, hb, hml, hown, hts⟩ (g_M_thrown l (P_r hP) htc hnc hac) (cwV 0 hts gL_law_X1_thrown rfl rfl rfl hdX1_thrown ⟨Nat.le_of_ble_eq_true rfl, Nat.le_of_ble_eq_true rfl⟩) (va_recv hK hP (ci := 1) (q0 := 8) rfl rfl) hK2 rfl hl.1 (Nat.le_of_ble_eq_true rfl) rfl dL_law_1246 ⟨by show _ ≤ 621274; omega, by show _ ≤ 7232283; omega⟩ ?_
    refine lv_iload hx hb dL_law_1249 (lv_at hl 1 rfl) ?_
    refine lv_ieq (tgt := 1256) hx hb rfl dL_law_1251 (by decide) ?_
    refine lv_iload hx hb dL_law_1256 (lv_at hl 1 rfl) ?_
    refine lv_if_ne (tgt := 1280) hx hb dL_law_1258 (by decide) (fun h0 => absurd rfl h0) (fun _ => ?_)
    refine lv_aload_n hx hb dL_law_1261 rfl (lv_at hl 3 rfl) ?_
    refine lv_iconst (v := 0) hx hb dL_law_1262 (by decide) ?_
    refine ll_ld hx hb hK hP 7 2 rfl rfl dL_law_1263 ?_
    refine lv_iload hx hb dL_law_1264 (lv_at hl 0 rfl) ?_
    refine lv_bl (t0 := 1273) hx hb dL_law_1266 dL_law_1269 dL_law_1270 dL_law_1273 (by decide) (by decide) ?_
    refine lv_leq (tgt := 1280) hx hb rfl dL_law_1274 dL_law_1275 (by decide) ?_
    refine lv_goto (tgt := 1543) hx hb dL_law_1280 (by decide) ?_
    refine W.widen (k := cells + 9) (n := slots + 58) (by omega) (by omega) ?_
    exact kk _ _ _ ⟨0, tc, nc, ac, ch, U, Z, V, Y, B, L, F, (vp_updL f 0 (bI (zz U Z nc k)).toInt64), hS, hP, hD, htc, hnc, hac, hu, hz, hB, hB0, lv_sub hl [2, 3, 4, 5, 6] rfl⟩
set_option maxHeartbeats 4000000 in
set_option maxRecDepth 100000 in
theorem lc_explanations (l : Launch) {p : Program} {e : Env} {s : State} {m : MethodId} {below : List Frame} {meth : Method} {c : Code} {b N : Nat} {xs : Nat → Int32} {D : va_G} {cI cZ cJ : ClassId} {q r : Nat → Nat} {o i : Nat} {H : Heap} {locs : List Loc} {ls : Array Slot} {cells slots : Nat} {Q : State → Prop} (C : LCtx l p s m c b N xs D cI cZ cJ) (h : LStt s D cI cZ cJ q r o b i H locs ls) (hi : i + 2 < N) (hcl : cells + 9 ≤ 621274) (hsl : slots + 58 ≤ 7232283) (kk : ∀ (H : Heap) (locs : List Loc) (ls : Array Slot), LStt s D cI cZ cJ q r o b i H locs ls → W p l e room_1 s m #[Value.ref b] below meth c H locs (cells + 9) (slots + 58) Q (F0 m 1543 ls [])) : W p l e room_1 s m #[Value.ref b] below meth c H locs cells slots Q (F0 m 1283 ls []) := by
  obtain ⟨hx, hb, hml, hown, hts, hX, hbl, hN, hl0, hK, hE0⟩ := C
  obtain ⟨th, tc, nc, ac, ch, U, Z, V, Y, B, L, F, f, hS, hP, hD, htc, hnc, hac, hu, hz, hB, hB0, hl⟩ := h
  have hK2 : va_K D vwCl (tyA cI cZ) s := hK.sub [0, 1] rfl
  have hA : ∀ q : Nat, s.heap.size ≤ q → lA s q := fun _ h => h
  have hbA : ¬ lA s b := Nat.not_le.mpr hbl
  have hpw := pw_in htc
  refine lv_aload_n hx hb dL_law_1283 rfl (lv_at hl 3 rfl) ?_
  refine pcV_i (As := []) (rest := []) ⟨hx, hb, hml, hown, hts⟩ (g_X_explanations l (P_l (P_l hP)) htc hnc hac ) (cwV 0 hts gL_law_X0_explanations rfl rfl rfl hdX0_explanations ⟨Nat.le_of_ble_eq_true rfl, Nat.le_of_ble_eq_true rfl⟩) (va_recv hK hP (ci := 0) (q0 := 0) rfl rfl) hK2 rfl hl.1 (Nat.le_of_ble_eq_true rfl) rfl dL_law_1284 ⟨by show _ ≤ 621274; omega, by show _ ≤ 7232283; omega⟩ ?_
  refine lv_aload_n hx hb dL_law_1287 rfl (lv_at hl 2 rfl) ?_
  refine wcV_i (As := []) (rest := [.int (nI (ex U Z nc (pw tc)))]) ⟨hx, hb, hml, hown, hts⟩ (w_M_explanations l (P_r hP) htc hnc hac (D_r hD)  ) (cwV 0 hts gL_law_X1_explanations rfl rfl rfl hdX1_explanations ⟨Nat.le_of_ble_eq_true rfl, Nat.le_of_ble_eq_true rfl⟩) (va_recv hK hP (ci := 1) (q0 := 8) rfl rfl) hK2 hS (fr_r hD hS hA) rfl hl.1 (Nat.le_of_ble_eq_true rfl) rfl dL_law_1288 ⟨by show _ ≤ 621274; omega, by show _ ≤ 7232283; omega⟩ (fun H1 locs hP1 hz1 hk1 hS => ?_)
  have hP : va_P D vwCl ((wX cI cZ q tc nc ac ch U Z B L F ++ [(o, .inl (cJ, 1, .inr (.inl f)))]) ++ wM cI cZ r 0 tc nc ac ch V Y B L F) H1 := up_r hP hD hk1 hP1
  have hD : va_D (lA s) ((wX cI cZ q tc nc ac ch U Z B L F ++ [(o, .inl (cJ, 1, .inr (.inl f)))]) ++ wM cI cZ r 0 tc nc ac ch V Y B L F) := va_D_re hD rfl
  clear hP1 hk1 hz1
  generalize H1 = H at hP hS ⊢
  refine lv_cst (y := nI (ex U Z nc (pw tc))) (congrArg nI (ex_cong hu hz (pw tc))) ?_
  refine lv_ieq (tgt := 1543) hx hb rfl dL_law_1291 (by decide) ?_
  refine W.widen (k := cells + 9) (n := slots + 58) (by omega) (by omega) ?_
  exact kk _ _ _ ⟨0, tc, nc, ac, ch, U, Z, V, Y, B, L, F, f, hS, hP, hD, htc, hnc, hac, hu, hz, hB, hB0, lv_sub hl [0, 1, 2, 3, 4] rfl⟩
set_option maxHeartbeats 4000000 in
set_option maxRecDepth 100000 in
theorem lc_simplest (l : Launch) {p : Program} {e : Env} {s : State} {m : MethodId} {below : List Frame} {meth : Method} {c : Code} {b N : Nat} {xs : Nat → Int32} {D : va_G} {cI cZ cJ : ClassId} {q r : Nat → Nat} {o i : Nat} {H : Heap} {locs : List Loc} {ls : Array Slot} {cells slots : Nat} {Q : State → Prop} (C : LCtx l p s m c b N xs D cI cZ cJ) (h : LStt s D cI cZ cJ q r o b i H locs ls) (hi : i + 2 < N) (hcl : cells + 9 ≤ 621274) (hsl : slots + 58 ≤ 7232283) (kk : ∀ (H : Heap) (locs : List Loc) (ls : Array Slot), LStt s D cI cZ cJ q r o b i H locs ls → W p l e room_1 s m #[Value.ref b] below meth c H locs (cells + 9) (slots + 58) Q (F0 m 1543 ls [])) : W p l e room_1 s m #[Value.ref b] below meth c H locs cells slots Q (F0 m 1296 ls []) := by
  obtain ⟨hx, hb, hml, hown, hts, hX, hbl, hN, hl0, hK, hE0⟩ := C
  obtain ⟨th, tc, nc, ac, ch, U, Z, V, Y, B, L, F, f, hS, hP, hD, htc, hnc, hac, hu, hz, hB, hB0, hl⟩ := h
  have hK2 : va_K D vwCl (tyA cI cZ) s := hK.sub [0, 1] rfl
  have hA : ∀ q : Nat, s.heap.size ≤ q → lA s q := fun _ h => h
  have hbA : ¬ lA s b := Nat.not_le.mpr hbl
  have hpw := pw_in htc
  refine lv_aload_n hx hb dL_law_1296 rfl (lv_at hl 3 rfl) ?_
  refine pcV_i (As := []) (rest := []) ⟨hx, hb, hml, hown, hts⟩ (g_X_simplest l (P_l (P_l hP)) htc hnc hac ) (cwV 0 hts gL_law_X0_simplest rfl rfl rfl hdX0_simplest ⟨Nat.le_of_ble_eq_true rfl, Nat.le_of_ble_eq_true rfl⟩) (va_recv hK hP (ci := 0) (q0 := 0) rfl rfl) hK2 rfl hl.1 (Nat.le_of_ble_eq_true rfl) rfl dL_law_1297 ⟨by show _ ≤ 621274; omega, by show _ ≤ 7232283; omega⟩ ?_
  refine lv_aload_n hx hb dL_law_1300 rfl (lv_at hl 2 rfl) ?_
  refine wcV_i (As := []) (rest := [.int ((spx (fun k => zz U Z nc k) (pw tc)).1)]) ⟨hx, hb, hml, hown, hts⟩ (w_M_simplest l (P_r hP) htc hnc hac (D_r hD)  ) (cwV 0 hts gL_law_X1_simplest rfl rfl rfl hdX1_simplest ⟨Nat.le_of_ble_eq_true rfl, Nat.le_of_ble_eq_true rfl⟩) (va_recv hK hP (ci := 1) (q0 := 8) rfl rfl) hK2 hS (fr_r hD hS hA) rfl hl.1 (Nat.le_of_ble_eq_true rfl) rfl dL_law_1301 ⟨by show _ ≤ 621274; omega, by show _ ≤ 7232283; omega⟩ (fun H1 locs hP1 hz1 hk1 hS => ?_)
  have hP : va_P D vwCl ((wX cI cZ q tc nc ac ch U Z B L F ++ [(o, .inl (cJ, 1, .inr (.inl f)))]) ++ wM cI cZ r 0 tc nc ac ch V Y B L F) H1 := up_r hP hD hk1 hP1
  have hD : va_D (lA s) ((wX cI cZ q tc nc ac ch U Z B L F ++ [(o, .inl (cJ, 1, .inr (.inl f)))]) ++ wM cI cZ r 0 tc nc ac ch V Y B L F) := va_D_re hD rfl
  clear hP1 hk1 hz1
  generalize H1 = H at hP hS ⊢
  refine lv_cst (y := (spx (fun k => zz U Z nc k) (pw tc)).1) (by rw [zzf_cong hu hz]; exact sim_eq hpw.2) ?_
  refine lv_ieq (tgt := 1543) hx hb rfl dL_law_1304 (by decide) ?_
  refine W.widen (k := cells + 9) (n := slots + 58) (by omega) (by omega) ?_
  exact kk _ _ _ ⟨0, tc, nc, ac, ch, U, Z, V, Y, B, L, F, f, hS, hP, hD, htc, hnc, hac, hu, hz, hB, hB0, lv_sub hl [0, 1, 2, 3, 4] rfl⟩
set_option maxHeartbeats 4000000 in
set_option maxRecDepth 100000 in
theorem lc_surelyToBlame (l : Launch) {p : Program} {e : Env} {s : State} {m : MethodId} {below : List Frame} {meth : Method} {c : Code} {b N : Nat} {xs : Nat → Int32} {D : va_G} {cI cZ cJ : ClassId} {q r : Nat → Nat} {o i : Nat} {H : Heap} {locs : List Loc} {ls : Array Slot} {cells slots : Nat} {Q : State → Prop} (C : LCtx l p s m c b N xs D cI cZ cJ) (h : LStt s D cI cZ cJ q r o b i H locs ls) (hi : i + 2 < N) (hcl : cells + 9 ≤ 621274) (hsl : slots + 58 ≤ 7232283) (kk : ∀ (H : Heap) (locs : List Loc) (ls : Array Slot), LStt s D cI cZ cJ q r o b i H locs ls → W p l e room_1 s m #[Value.ref b] below meth c H locs (cells + 9) (slots + 58) Q (F0 m 1543 ls [])) : W p l e room_1 s m #[Value.ref b] below meth c H locs cells slots Q (F0 m 1309 ls []) := by
  obtain ⟨hx, hb, hml, hown, hts, hX, hbl, hN, hl0, hK, hE0⟩ := C
  obtain ⟨th, tc, nc, ac, ch, U, Z, V, Y, B, L, F, f, hS, hP, hD, htc, hnc, hac, hu, hz, hB, hB0, hl⟩ := h
  have hK2 : va_K D vwCl (tyA cI cZ) s := hK.sub [0, 1] rfl
  have hA : ∀ q : Nat, s.heap.size ≤ q → lA s q := fun _ h => h
  have hbA : ¬ lA s b := Nat.not_le.mpr hbl
  have hpw := pw_in htc
  refine lv_aload_n hx hb dL_law_1309 rfl (lv_at hl 3 rfl) ?_
  refine pcV_i (As := []) (rest := []) ⟨hx, hb, hml, hown, hts⟩ (g_X_surelyToBlame l (P_l (P_l hP)) htc hnc hac ) (cwV 0 hts gL_law_X0_surelyToBlame rfl rfl rfl hdX0_surelyToBlame ⟨Nat.le_of_ble_eq_true rfl, Nat.le_of_ble_eq_true rfl⟩) (va_recv hK hP (ci := 0) (q0 := 0) rfl rfl) hK2 rfl hl.1 (Nat.le_of_ble_eq_true rfl) rfl dL_law_1310 ⟨by show _ ≤ 621274; omega, by show _ ≤ 7232283; omega⟩ ?_
  refine lv_aload_n hx hb dL_law_1313 rfl (lv_at hl 2 rfl) ?_
  refine wcV_i (As := []) (rest := [.int ((if decide (mnf (mis U Z nc) (nI nc) (pw tc) = 0) = true then anf (fun k => zz U Z nc k) (nI (pw tc - 1)) (pw tc) else -1))]) ⟨hx, hb, hml, hown, hts⟩ (w_M_surelyToBlame l (P_r hP) htc hnc hac (D_r hD)  ) (cwV 0 hts gL_law_X1_surelyToBlame rfl rfl rfl hdX1_surelyToBlame ⟨Nat.le_of_ble_eq_true rfl, Nat.le_of_ble_eq_true rfl⟩) (va_recv hK hP (ci := 1) (q0 := 8) rfl rfl) hK2 hS (fr_r hD hS hA) rfl hl.1 (Nat.le_of_ble_eq_true rfl) rfl dL_law_1314 ⟨by show _ ≤ 621274; omega, by show _ ≤ 7232283; omega⟩ (fun H1 locs hP1 hz1 hk1 hS => ?_)
  have hP : va_P D vwCl ((wX cI cZ q tc nc ac ch U Z B L F ++ [(o, .inl (cJ, 1, .inr (.inl f)))]) ++ wM cI cZ r 0 tc nc ac ch V Y B L F) H1 := up_r hP hD hk1 hP1
  have hD : va_D (lA s) ((wX cI cZ q tc nc ac ch U Z B L F ++ [(o, .inl (cJ, 1, .inr (.inl f)))]) ++ wM cI cZ r 0 tc nc ac ch V Y B L F) := va_D_re hD rfl
  clear hP1 hk1 hz1
  generalize H1 = H at hP hS ⊢
  refine lv_cst (y := (if decide (mnf (mis U Z nc) (nI nc) (pw tc) = 0) = true then anf (fun k => zz U Z nc k) (nI (pw tc - 1)) (pw tc) else -1)) (by rw [zzf_cong hu hz]; exact (su_eq U Z hnc htc).symm) ?_
  refine lv_ieq (tgt := 1543) hx hb rfl dL_law_1317 (by decide) ?_
  refine W.widen (k := cells + 9) (n := slots + 58) (by omega) (by omega) ?_
  exact kk _ _ _ ⟨0, tc, nc, ac, ch, U, Z, V, Y, B, L, F, f, hS, hP, hD, htc, hnc, hac, hu, hz, hB, hB0, lv_sub hl [0, 1, 2, 3, 4] rfl⟩
set_option maxHeartbeats 4000000 in
set_option maxRecDepth 100000 in
theorem lc_nightsToDoubt (l : Launch) {p : Program} {e : Env} {s : State} {m : MethodId} {below : List Frame} {meth : Method} {c : Code} {b N : Nat} {xs : Nat → Int32} {D : va_G} {cI cZ cJ : ClassId} {q r : Nat → Nat} {o i : Nat} {H : Heap} {locs : List Loc} {ls : Array Slot} {cells slots : Nat} {Q : State → Prop} (C : LCtx l p s m c b N xs D cI cZ cJ) (h : LStt s D cI cZ cJ q r o b i H locs ls) (hi : i + 2 < N) (hcl : cells + 9 ≤ 621274) (hsl : slots + 58 ≤ 7232283) (kk : ∀ (H : Heap) (locs : List Loc) (ls : Array Slot), LStt s D cI cZ cJ q r o b i H locs ls → W p l e room_1 s m #[Value.ref b] below meth c H locs (cells + 9) (slots + 58) Q (F0 m 1543 ls [])) : W p l e room_1 s m #[Value.ref b] below meth c H locs cells slots Q (F0 m 1322 ls []) := by
  obtain ⟨hx, hb, hml, hown, hts, hX, hbl, hN, hl0, hK, hE0⟩ := C
  obtain ⟨th, tc, nc, ac, ch, U, Z, V, Y, B, L, F, f, hS, hP, hD, htc, hnc, hac, hu, hz, hB, hB0, hl⟩ := h
  have hK2 : va_K D vwCl (tyA cI cZ) s := hK.sub [0, 1] rfl
  have hA : ∀ q : Nat, s.heap.size ≤ q → lA s q := fun _ h => h
  have hbA : ¬ lA s b := Nat.not_le.mpr hbl
  have hpw := pw_in htc
  refine lv_aload_n hx hb dL_law_1322 rfl (lv_at hl 3 rfl) ?_
  refine pcV_i (As := []) (rest := []) ⟨hx, hb, hml, hown, hts⟩ (g_X_nightsToDoubt l (P_l (P_l hP)) htc hnc hac ) (cwV 0 hts gL_law_X0_nightsToDoubt rfl rfl rfl hdX0_nightsToDoubt ⟨Nat.le_of_ble_eq_true rfl, Nat.le_of_ble_eq_true rfl⟩) (va_recv hK hP (ci := 0) (q0 := 0) rfl rfl) hK2 rfl hl.1 (Nat.le_of_ble_eq_true rfl) rfl dL_law_1323 ⟨by show _ ≤ 621274; omega, by show _ ≤ 7232283; omega⟩ ?_
  refine lv_aload_n hx hb dL_law_1326 rfl (lv_at hl 2 rfl) ?_
  refine wcV_i (As := []) (rest := [.int (mnf (mis U Z nc) (nI nc) (pw tc))]) ⟨hx, hb, hml, hown, hts⟩ (w_M_nightsToDoubt l (P_r hP) htc hnc hac (D_r hD)  ) (cwV 0 hts gL_law_X1_nightsToDoubt rfl rfl rfl hdX1_nightsToDoubt ⟨Nat.le_of_ble_eq_true rfl, Nat.le_of_ble_eq_true rfl⟩) (va_recv hK hP (ci := 1) (q0 := 8) rfl rfl) hK2 hS (fr_r hD hS hA) rfl hl.1 (Nat.le_of_ble_eq_true rfl) rfl dL_law_1327 ⟨by show _ ≤ 621274; omega, by show _ ≤ 7232283; omega⟩ (fun H1 locs hP1 hz1 hk1 hS => ?_)
  have hP : va_P D vwCl ((wX cI cZ q tc nc ac ch U Z B L F ++ [(o, .inl (cJ, 1, .inr (.inl f)))]) ++ wM cI cZ r 0 tc nc ac ch V Y B L F) H1 := up_r hP hD hk1 hP1
  have hD : va_D (lA s) ((wX cI cZ q tc nc ac ch U Z B L F ++ [(o, .inl (cJ, 1, .inr (.inl f)))]) ++ wM cI cZ r 0 tc nc ac ch V Y B L F) := va_D_re hD rfl
  clear hP1 hk1 hz1
  generalize H1 = H at hP hS ⊢
  refine lv_cst (y := mnf (mis U Z nc) (nI nc) (pw tc)) (by rw [mis_cong hu hz]) ?_
  refine lv_ieq (tgt := 1543) hx hb rfl dL_law_1330 (by decide) ?_
  refine W.widen (k := cells + 9) (n := slots + 58) (by omega) (by omega) ?_
  exact kk _ _ _ ⟨0, tc, nc, ac, ch, U, Z, V, Y, B, L, F, f, hS, hP, hD, htc, hnc, hac, hu, hz, hB, hB0, lv_sub hl [0, 1, 2, 3, 4] rfl⟩
set_option maxHeartbeats 4000000 in
set_option maxRecDepth 100000 in
theorem lc_leftIfSmudged (l : Launch) {p : Program} {e : Env} {s : State} {m : MethodId} {below : List Frame} {meth : Method} {c : Code} {b N : Nat} {xs : Nat → Int32} {D : va_G} {cI cZ cJ : ClassId} {q r : Nat → Nat} {o i : Nat} {H : Heap} {locs : List Loc} {ls : Array Slot} {cells slots : Nat} {Q : State → Prop} (C : LCtx l p s m c b N xs D cI cZ cJ) (h : LStt s D cI cZ cJ q r o b i H locs ls) (hi : i + 2 < N) (hcl : cells + 9 ≤ 621274) (hsl : slots + 58 ≤ 7232283) (kk : ∀ (H : Heap) (locs : List Loc) (ls : Array Slot), LStt s D cI cZ cJ q r o b i H locs ls → W p l e room_1 s m #[Value.ref b] below meth c H locs (cells + 9) (slots + 58) Q (F0 m 1543 ls [])) : W p l e room_1 s m #[Value.ref b] below meth c H locs cells slots Q (F0 m 1335 ls []) := by
  obtain ⟨hx, hb, hml, hown, hts, hX, hbl, hN, hl0, hK, hE0⟩ := C
  obtain ⟨th, tc, nc, ac, ch, U, Z, V, Y, B, L, F, f, hS, hP, hD, htc, hnc, hac, hu, hz, hB, hB0, hl⟩ := h
  have hK2 : va_K D vwCl (tyA cI cZ) s := hK.sub [0, 1] rfl
  have hA : ∀ q : Nat, s.heap.size ≤ q → lA s q := fun _ h => h
  have hbA : ¬ lA s b := Nat.not_le.mpr hbl
  have hpw := pw_in htc
  rcases ar_us (xs (i + 1)) hpw.1 with hv | ⟨k, hk0, hk, ev⟩
  · skip
    refine lv_aload_n hx hb dL_law_1335 rfl (lv_at hl 3 rfl) ?_
    refine lv_aload_n hx hb dL_law_1336 rfl (lv_at hl 4 rfl) ?_
    refine lv_iload hx hb dL_law_1337 (lv_at hl 0 rfl) ?_
    refine lv_iconst (v := 1) hx hb dL_law_1339 (by decide) ?_
    refine lv_iadd hx hb dL_law_1340 ?_
    refine lv_cst (y := nI (i + 1)) (nI_add i 1) ?_
    refine s_ld hx hb hX hbl hbA hS (j := i + 1) (by omega) hN dL_law_1341 ?_
    refine lv_aload_n hx hb dL_law_1342 rfl (lv_at hl 1 rfl) ?_
    refine sc_b (k := 1) (As := [.ref (q 0), .int (xs (i + 1)), .ref o]) (rest := []) ⟨hx, hb, hml, hown, hts⟩ (wx_L_leftIfSmudged l hl0 (P_l hP) htc hnc hac (v := xs (i + 1)) hv) (vx_cwSW 3 hts gL_law_L_leftIfSmudged rfl rfl rfl hdL_leftIfSmudged ⟨Nat.le_of_ble_eq_true rfl, Nat.le_of_ble_eq_true rfl⟩) hK (xE_law hE0 hS) hS rfl hl.1 (Nat.le_of_ble_eq_true rfl) rfl dL_law_1343 ⟨by show _ ≤ 621274; omega, by show _ ≤ 7232283; omega⟩ (fun H1 locs hz1 hk1 hS => ?_)
    have hP : va_P D vwCl ((wX cI cZ q tc nc ac ch U Z B L F ++ [(o, .inl (cJ, 1, .inr (.inl f)))]) ++ wM cI cZ r th tc nc ac ch V Y B L F) H1 := grow_P hP hk1
    clear hk1 hz1
    generalize H1 = H at hP hS ⊢
    refine lv_istore (lv' := [(5, .int 1), (4, .int (nI i)), (3, .ref o), (2, .ref (r 0)), (1, .ref (q 0)), (0, .ref b)]) hx hb dL_law_1346 hl (by decide) rfl (fun ls hl => ?_)
    refine lv_aload_n hx hb dL_law_1348 rfl (lv_at hl 3 rfl) ?_
    refine lv_aload_n hx hb dL_law_1349 rfl (lv_at hl 5 rfl) ?_
    refine lv_iload hx hb dL_law_1350 (lv_at hl 1 rfl) ?_
    refine lv_iconst (v := 1) hx hb dL_law_1352 (by decide) ?_
    refine lv_iadd hx hb dL_law_1353 ?_
    refine lv_cst (y := nI (i + 1)) (nI_add i 1) ?_
    refine s_ld hx hb hX hbl hbA hS (j := i + 1) (by omega) hN dL_law_1354 ?_
    refine wcV_i (As := [.int (xs (i + 1))]) (rest := []) ⟨hx, hb, hml, hown, hts⟩ (wb_M_leftIfSmudged l (P_r hP) htc hnc hac (D_r hD) (v := xs (i + 1)) hv) (cwV 1 hts gL_law_X1_leftIfSmudged rfl rfl rfl hdX1_leftIfSmudged ⟨Nat.le_of_ble_eq_true rfl, Nat.le_of_ble_eq_true rfl⟩) (va_recv hK hP (ci := 1) (q0 := 8) rfl rfl) hK2 hS (fr_r hD hS hA) rfl hl.1 (Nat.le_of_ble_eq_true rfl) rfl dL_law_1355 ⟨by show _ ≤ 621274; omega, by show _ ≤ 7232283; omega⟩ (fun H1 locs hP1 hz1 hk1 hS => ?_)
    have hP : va_P D vwCl ((wX cI cZ q tc nc ac ch U Z B L F ++ [(o, .inl (cJ, 1, .inr (.inl f)))]) ++ wM cI cZ r 1 tc nc ac ch V Y B L F) H1 := up_r hP hD hk1 hP1
    have hD : va_D (lA s) ((wX cI cZ q tc nc ac ch U Z B L F ++ [(o, .inl (cJ, 1, .inr (.inl f)))]) ++ wM cI cZ r 1 tc nc ac ch V Y B L F) := va_D_re hD rfl
    clear hP1 hk1 hz1
    generalize H1 = H at hP hS ⊢
    refine lv_istore (lv' := [(6, .int 0), (5, .int 1), (4, .int (nI i)), (3, .ref o), (2, .ref (r 0)), (1, .ref (q 0)), (0, .ref b)]) hx hb dL_law_1358 hl (by decide) rfl (fun ls hl => ?_)
    refine lv_aload_n hx hb dL_law_1360 rfl (lv_at hl 4 rfl) ?_
    refine pcV_i (As := []) (rest := []) ⟨hx, hb, hml, hown, hts⟩ (g_M_thrown l (P_r hP) htc hnc hac) (cwV 0 hts gL_law_X1_thrown rfl rfl rfl hdX1_thrown ⟨Nat.le_of_ble_eq_true rfl, Nat.le_of_ble_eq_true rfl⟩) (va_recv hK hP (ci := 1) (q0 := 8) rfl rfl) hK2 rfl hl.1 (Nat.le_of_ble_eq_true rfl) rfl dL_law_1361 ⟨by show _ ≤ 621274; omega, by show _ ≤ 7232283; omega⟩ ?_
    refine lv_iload hx hb dL_law_1364 (lv_at hl 1 rfl) ?_
    refine lv_ieq (tgt := 1371) hx hb rfl dL_law_1366 (by decide) ?_
    refine lv_iload hx hb dL_law_1371 (lv_at hl 1 rfl) ?_
    refine lv_if_ne (tgt := 1388) hx hb dL_law_1373 (by decide) (fun _ => ?_) (fun h0 => absurd h0 (by decide))
    refine lv_goto (tgt := 1543) hx hb dL_law_1388 (by decide) ?_
    refine W.widen (k := cells + 9) (n := slots + 58) (by omega) (by omega) ?_
    exact kk _ _ _ ⟨1, tc, nc, ac, ch, U, Z, V, Y, B, L, F, f, hS, hP, hD, htc, hnc, hac, hu, hz, hB, hB0, lv_sub hl [2, 3, 4, 5, 6] rfl⟩
  · skip
    refine lv_aload_n hx hb dL_law_1335 rfl (lv_at hl 3 rfl) ?_
    refine lv_aload_n hx hb dL_law_1336 rfl (lv_at hl 4 rfl) ?_
    refine lv_iload hx hb dL_law_1337 (lv_at hl 0 rfl) ?_
    refine lv_iconst (v := 1) hx hb dL_law_1339 (by decide) ?_
    refine lv_iadd hx hb dL_law_1340 ?_
    refine lv_cst (y := nI (i + 1)) (nI_add i 1) ?_
    refine s_ld hx hb hX hbl hbA hS (j := i + 1) (by omega) hN dL_law_1341 ?_
    refine lv_cst (y := nI k) ev ?_
    refine lv_aload_n hx hb dL_law_1342 rfl (lv_at hl 1 rfl) ?_
    refine sc_g (As := [.ref (q 0), .int (nI k), .ref o]) (rest := []) ⟨hx, hb, hml, hown, hts⟩ (w_L_leftIfSmudged l (P_l hP) htc hnc hac (D_l hD) (k := k) hk0 hk) (vx_cwSW 3 hts gL_law_L_leftIfSmudged rfl rfl rfl hdL_leftIfSmudged ⟨Nat.le_of_ble_eq_true rfl, Nat.le_of_ble_eq_true rfl⟩) hK hS (fr_l hD hS hA) rfl hl.1 (Nat.le_of_ble_eq_true rfl) rfl dL_law_1343 ⟨by show _ ≤ 621274; omega, by show _ ≤ 7232283; omega⟩ (fun H1 locs hP1 hz1 hk1 hS => ?_)
    have hP : va_P D vwCl ((wX cI cZ q tc nc ac ch U Z B L F ++ [(o, .inl (cJ, 1, .inr (.inl (vp_updL f 0 (nI (mt U Z nc (pw tc) (nI k))).toInt64))))]) ++ wM cI cZ r th tc nc ac ch V Y B L F) H1 := up_l hP hD hk1 hP1
    have hD : va_D (lA s) ((wX cI cZ q tc nc ac ch U Z B L F ++ [(o, .inl (cJ, 1, .inr (.inl (vp_updL f 0 (nI (mt U Z nc (pw tc) (nI k))).toInt64))))]) ++ wM cI cZ r th tc nc ac ch V Y B L F) := va_D_re hD rfl
    clear hP1 hk1 hz1
    generalize H1 = H at hP hS ⊢
    refine lv_istore (lv' := [(5, .int 0), (4, .int (nI i)), (3, .ref o), (2, .ref (r 0)), (1, .ref (q 0)), (0, .ref b)]) hx hb dL_law_1346 hl (by decide) rfl (fun ls hl => ?_)
    refine lv_aload_n hx hb dL_law_1348 rfl (lv_at hl 3 rfl) ?_
    refine lv_aload_n hx hb dL_law_1349 rfl (lv_at hl 5 rfl) ?_
    refine lv_iload hx hb dL_law_1350 (lv_at hl 1 rfl) ?_
    refine lv_iconst (v := 1) hx hb dL_law_1352 (by decide) ?_
    refine lv_iadd hx hb dL_law_1353 ?_
    refine lv_cst (y := nI (i + 1)) (nI_add i 1) ?_
    refine s_ld hx hb hX hbl hbA hS (j := i + 1) (by omega) hN dL_law_1354 ?_
    refine lv_cst (y := nI k) ev ?_
    refine wcV_i (As := [.int (nI k)]) (rest := []) ⟨hx, hb, hml, hown, hts⟩ (w_M_leftIfSmudged l (P_r hP) htc hnc hac (D_r hD) (k := k) hk0 hk) (cwV 1 hts gL_law_X1_leftIfSmudged rfl rfl rfl hdX1_leftIfSmudged ⟨Nat.le_of_ble_eq_true rfl, Nat.le_of_ble_eq_true rfl⟩) (va_recv hK hP (ci := 1) (q0 := 8) rfl rfl) hK2 hS (fr_r hD hS hA) rfl hl.1 (Nat.le_of_ble_eq_true rfl) rfl dL_law_1355 ⟨by show _ ≤ 621274; omega, by show _ ≤ 7232283; omega⟩ (fun H1 locs hP1 hz1 hk1 hS => ?_)
    have hP : va_P D vwCl ((wX cI cZ q tc nc ac ch U Z B L F ++ [(o, .inl (cJ, 1, .inr (.inl (vp_updL f 0 (nI (mt U Z nc (pw tc) (nI k))).toInt64))))]) ++ wM cI cZ r 0 tc nc ac ch V Y B L F) H1 := up_r hP hD hk1 hP1
    have hD : va_D (lA s) ((wX cI cZ q tc nc ac ch U Z B L F ++ [(o, .inl (cJ, 1, .inr (.inl (vp_updL f 0 (nI (mt U Z nc (pw tc) (nI k))).toInt64))))]) ++ wM cI cZ r 0 tc nc ac ch V Y B L F) := va_D_re hD rfl
    clear hP1 hk1 hz1
    generalize H1 = H at hP hS ⊢
    refine lv_cst (y := nI (mt U Z nc (pw tc) (nI k))) (congrArg nI (mt_cong hu hz (pw tc) (nI k))) ?_
    refine lv_istore (lv' := [(6, .int (nI (mt U Z nc (pw tc) (nI k)))), (5, .int 0), (4, .int (nI i)), (3, .ref o), (2, .ref (r 0)), (1, .ref (q 0)), (0, .ref b)]) hx hb dL_law_1358 hl (by decide) rfl (fun ls hl => ?_)
    refine lv_aload_n hx hb dL_law_1360 rfl (lv_at hl 4 rfl) ?_
    refine pcV_i (As := []) (rest := []) ⟨hx, hb, hml, hown, hts⟩ (g_M_thrown l (P_r hP) htc hnc hac) (cwV 0 hts gL_law_X1_thrown rfl rfl rfl hdX1_thrown ⟨Nat.le_of_ble_eq_true rfl, Nat.le_of_ble_eq_true rfl⟩) (va_recv hK hP (ci := 1) (q0 := 8) rfl rfl) hK2 rfl hl.1 (Nat.le_of_ble_eq_true rfl) rfl dL_law_1361 ⟨by show _ ≤ 621274; omega, by show _ ≤ 7232283; omega⟩ ?_
    refine lv_iload hx hb dL_law_1364 (lv_at hl 1 rfl) ?_
    refine lv_ieq (tgt := 1371) hx hb rfl dL_law_1366 (by decide) ?_
    refine lv_iload hx hb dL_law_1371 (lv_at hl 1 rfl) ?_
    refine lv_if_ne (tgt := 1388) hx hb dL_law_1373 (by decide) (fun h0 => absurd rfl h0) (fun _ => ?_)
    refine lv_aload_n hx hb dL_law_1376 rfl (lv_at hl 3 rfl) ?_
    refine lv_iconst (v := 0) hx hb dL_law_1377 (by decide) ?_
    refine ll_ld hx hb hK hP 7 2 rfl rfl dL_law_1378 ?_
    refine lv_iload hx hb dL_law_1379 (lv_at hl 0 rfl) ?_
    refine lv_i2l (v := (nI (mt U Z nc (pw tc) (nI k))).toInt64) hx hb dL_law_1381 rfl ?_
    refine lv_leq (tgt := 1388) hx hb rfl dL_law_1382 dL_law_1383 (by decide) ?_
    refine lv_goto (tgt := 1543) hx hb dL_law_1388 (by decide) ?_
    refine W.widen (k := cells + 9) (n := slots + 58) (by omega) (by omega) ?_
    exact kk _ _ _ ⟨0, tc, nc, ac, ch, U, Z, V, Y, B, L, F, (vp_updL f 0 (nI (mt U Z nc (pw tc) (nI k))).toInt64), hS, hP, hD, htc, hnc, hac, hu, hz, hB, hB0, lv_sub hl [2, 3, 4, 5, 6] rfl⟩
set_option maxHeartbeats 4000000 in
set_option maxRecDepth 100000 in
theorem lc_bestNight (l : Launch) {p : Program} {e : Env} {s : State} {m : MethodId} {below : List Frame} {meth : Method} {c : Code} {b N : Nat} {xs : Nat → Int32} {D : va_G} {cI cZ cJ : ClassId} {q r : Nat → Nat} {o i : Nat} {H : Heap} {locs : List Loc} {ls : Array Slot} {cells slots : Nat} {Q : State → Prop} (C : LCtx l p s m c b N xs D cI cZ cJ) (h : LStt s D cI cZ cJ q r o b i H locs ls) (hi : i + 2 < N) (hcl : cells + 9 ≤ 621274) (hsl : slots + 58 ≤ 7232283) (kk : ∀ (H : Heap) (locs : List Loc) (ls : Array Slot), LStt s D cI cZ cJ q r o b i H locs ls → W p l e room_1 s m #[Value.ref b] below meth c H locs (cells + 9) (slots + 58) Q (F0 m 1543 ls [])) : W p l e room_1 s m #[Value.ref b] below meth c H locs cells slots Q (F0 m 1391 ls []) := by
  obtain ⟨hx, hb, hml, hown, hts, hX, hbl, hN, hl0, hK, hE0⟩ := C
  obtain ⟨th, tc, nc, ac, ch, U, Z, V, Y, B, L, F, f, hS, hP, hD, htc, hnc, hac, hu, hz, hB, hB0, hl⟩ := h
  have hK2 : va_K D vwCl (tyA cI cZ) s := hK.sub [0, 1] rfl
  have hA : ∀ q : Nat, s.heap.size ≤ q → lA s q := fun _ h => h
  have hbA : ¬ lA s b := Nat.not_le.mpr hbl
  have hpw := pw_in htc
  refine lv_aload_n hx hb dL_law_1391 rfl (lv_at hl 3 rfl) ?_
  refine pcV_i (As := []) (rest := []) ⟨hx, hb, hml, hown, hts⟩ (g_X_bestNight l (P_l (P_l hP)) htc hnc hac ) (cwV 0 hts gL_law_X0_bestNight rfl rfl rfl hdX0_bestNight ⟨Nat.le_of_ble_eq_true rfl, Nat.le_of_ble_eq_true rfl⟩) (va_recv hK hP (ci := 0) (q0 := 0) rfl rfl) hK2 rfl hl.1 (Nat.le_of_ble_eq_true rfl) rfl dL_law_1392 ⟨by show _ ≤ 621274; omega, by show _ ≤ 7232283; omega⟩ ?_
  refine lv_aload_n hx hb dL_law_1395 rfl (lv_at hl 2 rfl) ?_
  refine wcV_i (As := []) (rest := [.int ((bn (lf U Z nc (pw tc)) (pw tc - 1)).1)]) ⟨hx, hb, hml, hown, hts⟩ (w_M_bestNight l (P_r hP) htc hnc hac (D_r hD)  ) (cwV 0 hts gL_law_X1_bestNight rfl rfl rfl hdX1_bestNight ⟨Nat.le_of_ble_eq_true rfl, Nat.le_of_ble_eq_true rfl⟩) (va_recv hK hP (ci := 1) (q0 := 8) rfl rfl) hK2 hS (fr_r hD hS hA) rfl hl.1 (Nat.le_of_ble_eq_true rfl) rfl dL_law_1396 ⟨by show _ ≤ 621274; omega, by show _ ≤ 7232283; omega⟩ (fun H1 locs hP1 hz1 hk1 hS => ?_)
  have hP : va_P D vwCl ((wX cI cZ q tc nc ac ch U Z B L F ++ [(o, .inl (cJ, 1, .inr (.inl f)))]) ++ wM cI cZ r 0 tc nc ac ch V Y B L F) H1 := up_r hP hD hk1 hP1
  have hD : va_D (lA s) ((wX cI cZ q tc nc ac ch U Z B L F ++ [(o, .inl (cJ, 1, .inr (.inl f)))]) ++ wM cI cZ r 0 tc nc ac ch V Y B L F) := va_D_re hD rfl
  clear hP1 hk1 hz1
  generalize H1 = H at hP hS ⊢
  refine lv_cst (y := (bn (lf U Z nc (pw tc)) (pw tc - 1)).1) (by rw [lf_cong hu hz]; exact (bb_eq U Z nc htc).symm) ?_
  refine lv_ieq (tgt := 1543) hx hb rfl dL_law_1399 (by decide) ?_
  refine W.widen (k := cells + 9) (n := slots + 58) (by omega) (by omega) ?_
  exact kk _ _ _ ⟨0, tc, nc, ac, ch, U, Z, V, Y, B, L, F, f, hS, hP, hD, htc, hnc, hac, hu, hz, hB, hB0, lv_sub hl [0, 1, 2, 3, 4] rfl⟩
set_option maxHeartbeats 4000000 in
set_option maxRecDepth 100000 in
theorem lc_meanBlame (l : Launch) {p : Program} {e : Env} {s : State} {m : MethodId} {below : List Frame} {meth : Method} {c : Code} {b N : Nat} {xs : Nat → Int32} {D : va_G} {cI cZ cJ : ClassId} {q r : Nat → Nat} {o i : Nat} {H : Heap} {locs : List Loc} {ls : Array Slot} {cells slots : Nat} {Q : State → Prop} (C : LCtx l p s m c b N xs D cI cZ cJ) (h : LStt s D cI cZ cJ q r o b i H locs ls) (hi : i + 2 < N) (hcl : cells + 9 ≤ 621274) (hsl : slots + 58 ≤ 7232283) (kk : ∀ (H : Heap) (locs : List Loc) (ls : Array Slot), LStt s D cI cZ cJ q r o b i H locs ls → W p l e room_1 s m #[Value.ref b] below meth c H locs (cells + 9) (slots + 58) Q (F0 m 1543 ls [])) : W p l e room_1 s m #[Value.ref b] below meth c H locs cells slots Q (F0 m 1488 ls []) := by
  obtain ⟨hx, hb, hml, hown, hts, hX, hbl, hN, hl0, hK, hE0⟩ := C
  obtain ⟨th, tc, nc, ac, ch, U, Z, V, Y, B, L, F, f, hS, hP, hD, htc, hnc, hac, hu, hz, hB, hB0, hl⟩ := h
  have hK2 : va_K D vwCl (tyA cI cZ) s := hK.sub [0, 1] rfl
  have hA : ∀ q : Nat, s.heap.size ≤ q → lA s q := fun _ h => h
  have hbA : ¬ lA s b := Nat.not_le.mpr hbl
  have hpw := pw_in htc
  refine lv_aload_n hx hb dL_law_1488 rfl (lv_at hl 3 rfl) ?_
  refine pcV_d (As := []) (rest := []) ⟨hx, hb, hml, hown, hts⟩ (g_X_meanBlame l (P_l (P_l hP)) htc hnc hac ) (cwV 0 hts gL_law_X0_meanBlame rfl rfl rfl hdX0_meanBlame ⟨Nat.le_of_ble_eq_true rfl, Nat.le_of_ble_eq_true rfl⟩) (va_recv hK hP (ci := 0) (q0 := 0) rfl rfl) hK2 rfl hl.1 (Nat.le_of_ble_eq_true rfl) rfl dL_law_1489 ⟨by show _ ≤ 621274; omega, by show _ ≤ 7232283; omega⟩ ?_
  refine lv_dstore (lv' := [(5, .double ((if nI ac = 0 then FP.dconst0 else FP.ddiv (FP.i2d (bsum B ac)) (FP.i2d (nI ac))))), (4, .int (nI i)), (3, .ref o), (2, .ref (r 0)), (1, .ref (q 0)), (0, .ref b)]) hx hb dL_law_1492 hl (by decide) rfl (fun ls hl => ?_)
  refine lv_aload_n hx hb dL_law_1494 rfl (lv_at hl 3 rfl) ?_
  refine wcV_d (As := []) (rest := []) ⟨hx, hb, hml, hown, hts⟩ (w_M_meanBlame l (P_r hP) htc hnc hac (D_r hD)  ) (cwV 0 hts gL_law_X1_meanBlame rfl rfl rfl hdX1_meanBlame ⟨Nat.le_of_ble_eq_true rfl, Nat.le_of_ble_eq_true rfl⟩) (va_recv hK hP (ci := 1) (q0 := 8) rfl rfl) hK2 hS (fr_r hD hS hA) rfl hl.1 (Nat.le_of_ble_eq_true rfl) rfl dL_law_1495 ⟨by show _ ≤ 621274; omega, by show _ ≤ 7232283; omega⟩ (fun H1 locs hP1 hz1 hk1 hS => ?_)
  have hP : va_P D vwCl ((wX cI cZ q tc nc ac ch U Z B L F ++ [(o, .inl (cJ, 1, .inr (.inl f)))]) ++ wM cI cZ r 0 tc nc ac ch V Y B L F) H1 := up_r hP hD hk1 hP1
  have hD : va_D (lA s) ((wX cI cZ q tc nc ac ch U Z B L F ++ [(o, .inl (cJ, 1, .inr (.inl f)))]) ++ wM cI cZ r 0 tc nc ac ch V Y B L F) := va_D_re hD rfl
  clear hP1 hk1 hz1
  generalize H1 = H at hP hS ⊢
  refine lv_dstore (lv' := [(7, .double ((if nI ac = 0 then FP.dconst0 else FP.ddiv (FP.i2d (bsum B ac)) (FP.i2d (nI ac))))), (5, .double ((if nI ac = 0 then FP.dconst0 else FP.ddiv (FP.i2d (bsum B ac)) (FP.i2d (nI ac))))), (4, .int (nI i)), (3, .ref o), (2, .ref (r 0)), (1, .ref (q 0)), (0, .ref b)]) hx hb dL_law_1498 hl (by decide) rfl (fun ls hl => ?_)
  have hend : ∀ ls : Array Slot, lv_has ls 9 [(7, .double ((if nI ac = 0 then FP.dconst0 else FP.ddiv (FP.i2d (bsum B ac)) (FP.i2d (nI ac))))), (5, .double ((if nI ac = 0 then FP.dconst0 else FP.ddiv (FP.i2d (bsum B ac)) (FP.i2d (nI ac))))), (4, .int (nI i)), (3, .ref o), (2, .ref (r 0)), (1, .ref (q 0)), (0, .ref b)] → W p l e room_1 s m #[Value.ref b] below meth c H locs (cells + 0) (slots + 0) Q (F0 m 1526 ls []) := fun ls hl => by
    refine lv_goto (tgt := 1543) hx hb dL_law_1526 (by decide) ?_
    refine W.widen (k := cells + 9) (n := slots + 58) (by omega) (by omega) ?_
    exact kk _ _ _ ⟨0, tc, nc, ac, ch, U, Z, V, Y, B, L, F, f, hS, hP, hD, htc, hnc, hac, hu, hz, hB, hB0, lv_sub hl [2, 3, 4, 5, 6] rfl⟩
  refine lv_dload hx hb dL_law_1500 (lv_at hl 1 rfl) ?_
  refine lv_dload hx hb dL_law_1502 (lv_at hl 0 rfl) ?_
  refine lv_dcmp hx hb dL_law_1504 ?_
  refine lv_if_eq (tgt := 1526) hx hb dL_law_1505 (by decide) (fun _ => hend ls hl) (fun hne => ?_)
  refine lv_dload hx hb dL_law_1508 (lv_at hl 1 rfl) ?_
  refine lv_dload hx hb dL_law_1510 (lv_at hl 1 rfl) ?_
  refine lv_dcmp hx hb dL_law_1512 ?_
  refine lv_if_eq (tgt := 1524) hx hb dL_law_1513 (by decide) (fun h0 => absurd h0 hne) (fun _ => ?_)
  refine lv_dload hx hb dL_law_1516 (lv_at hl 0 rfl) ?_
  refine lv_dload hx hb dL_law_1518 (lv_at hl 0 rfl) ?_
  refine lv_dcmp hx hb dL_law_1520 ?_
  refine lv_if_ne (tgt := 1526) hx hb dL_law_1521 (by decide) (fun _ => hend ls hl) (fun h0 => absurd h0 hne)
set_option maxHeartbeats 4000000 in
set_option maxRecDepth 100000 in
theorem lc_digest (l : Launch) {p : Program} {e : Env} {s : State} {m : MethodId} {below : List Frame} {meth : Method} {c : Code} {b N : Nat} {xs : Nat → Int32} {D : va_G} {cI cZ cJ : ClassId} {q r : Nat → Nat} {o i : Nat} {H : Heap} {locs : List Loc} {ls : Array Slot} {cells slots : Nat} {Q : State → Prop} (C : LCtx l p s m c b N xs D cI cZ cJ) (h : LStt s D cI cZ cJ q r o b i H locs ls) (hi : i + 2 < N) (hcl : cells + 9 ≤ 621274) (hsl : slots + 58 ≤ 7232283) (kk : ∀ (H : Heap) (locs : List Loc) (ls : Array Slot), LStt s D cI cZ cJ q r o b i H locs ls → W p l e room_1 s m #[Value.ref b] below meth c H locs (cells + 9) (slots + 58) Q (F0 m 1543 ls [])) : W p l e room_1 s m #[Value.ref b] below meth c H locs cells slots Q (F0 m 1529 ls []) := by
  obtain ⟨hx, hb, hml, hown, hts, hX, hbl, hN, hl0, hK, hE0⟩ := C
  obtain ⟨th, tc, nc, ac, ch, U, Z, V, Y, B, L, F, f, hS, hP, hD, htc, hnc, hac, hu, hz, hB, hB0, hl⟩ := h
  have hK2 : va_K D vwCl (tyA cI cZ) s := hK.sub [0, 1] rfl
  have hA : ∀ q : Nat, s.heap.size ≤ q → lA s q := fun _ h => h
  have hbA : ¬ lA s b := Nat.not_le.mpr hbl
  have hpw := pw_in htc
  refine lv_aload_n hx hb dL_law_1529 rfl (lv_at hl 3 rfl) ?_
  refine pcV_l (As := []) (rest := []) ⟨hx, hb, hml, hown, hts⟩ (g_X_digest l (P_l (P_l hP)) htc hnc hac hB) (cwV 0 hts gL_law_X0_digest rfl rfl rfl hdX0_digest ⟨Nat.le_of_ble_eq_true rfl, Nat.le_of_ble_eq_true rfl⟩) (va_recv hK hP (ci := 0) (q0 := 0) rfl rfl) hK2 rfl hl.1 (Nat.le_of_ble_eq_true rfl) rfl dL_law_1530 ⟨by show _ ≤ 621274; omega, by show _ ≤ 7232283; omega⟩ ?_
  refine lv_aload_n hx hb dL_law_1533 rfl (lv_at hl 2 rfl) ?_
  refine wcV_l (As := []) (rest := [.long (dfo (fun a x => mix (mix (mix x (B a).toInt64) (L a).toInt64) (nI (un U Z (B a) nc)).toInt64) (dfo (fun j x => mix (mix x (U j).toInt64) (bI (Z j)).toInt64) (dfo (fun t x => dTh (nI (ct (fun j => ho (U j) (nI t)) nc)) (nI (ct (fun j => Z j && ho (U j) (nI t)) nc)) (bI (ho (cld U Z nc) (nI t))) (bI (anyb (fun j => Z j && ho (U j) (nI t) && decide (U j &&& ((cld U Z nc ||| ((1 : Int32) <<< (nI t &&& 31))) ^^^ (-1)) = 0)) nc)) (nI (mt U Z nc (pw tc) ((1 : Int32) <<< (nI t &&& 31)))) (nI (ct (fun a => ho (B a) (nI t)) ac)) x) (dhd (nI tc) (nI nc) (nI (ct Z nc)) (bI (decide (mnf (mis U Z nc) (nI nc) (pw tc) = 0))) (nI ac) (orf (fun t => decide (¬ nI (ct (fun a => ho (B a) (nI t)) ac) * 2 ≤ nI ac)) (fun t => (1 : Int32) <<< (nI t &&& 31)) tc) ch (nI (ex U Z nc (pw tc))) ((spx (fun k => zz U Z nc k) (pw tc)).1) ((if decide (mnf (mis U Z nc) (nI nc) (pw tc) = 0) = true then anf (fun k => zz U Z nc k) (nI (pw tc - 1)) (pw tc) else -1))) tc) nc) ac)]) ⟨hx, hb, hml, hown, hts⟩ (w_M_digest l (P_r hP) htc hnc hac (D_r hD)  ) (cwV 0 hts gL_law_X1_digest rfl rfl rfl hdX1_digest ⟨Nat.le_of_ble_eq_true rfl, Nat.le_of_ble_eq_true rfl⟩) (va_recv hK hP (ci := 1) (q0 := 8) rfl rfl) hK2 hS (fr_r hD hS hA) rfl hl.1 (Nat.le_of_ble_eq_true rfl) rfl dL_law_1534 ⟨by show _ ≤ 621274; omega, by show _ ≤ 7232283; omega⟩ (fun H1 locs hP1 hz1 hk1 hS => ?_)
  have hP : va_P D vwCl ((wX cI cZ q tc nc ac ch U Z B L F ++ [(o, .inl (cJ, 1, .inr (.inl f)))]) ++ wM cI cZ r 0 tc nc ac ch V Y B L F) H1 := up_r hP hD hk1 hP1
  have hD : va_D (lA s) ((wX cI cZ q tc nc ac ch U Z B L F ++ [(o, .inl (cJ, 1, .inr (.inl f)))]) ++ wM cI cZ r 0 tc nc ac ch V Y B L F) := va_D_re hD rfl
  clear hP1 hk1 hz1
  generalize H1 = H at hP hS ⊢
  refine lv_cstl (y := dfo (fun a x => mix (mix (mix x (B a).toInt64) (L a).toInt64) (nI (un U Z (B a) nc)).toInt64) (dfo (fun j x => mix (mix x (U j).toInt64) (bI (Z j)).toInt64) (dfo (fun t x => dTh (nI (ct (fun j => ho (U j) (nI t)) nc)) (nI (ct (fun j => Z j && ho (U j) (nI t)) nc)) (bI (ho (cld U Z nc) (nI t))) (bI (anyb (fun j => Z j && ho (U j) (nI t) && decide (U j &&& ((cld U Z nc ||| ((1 : Int32) <<< (nI t &&& 31))) ^^^ (-1)) = 0)) nc)) (nI (mt U Z nc (pw tc) ((1 : Int32) <<< (nI t &&& 31)))) (nI (ct (fun a => ho (B a) (nI t)) ac)) x) (dhd (nI tc) (nI nc) (nI (ct Z nc)) (bI (decide (mnf (mis U Z nc) (nI nc) (pw tc) = 0))) (nI ac) (orf (fun t => decide (¬ nI (ct (fun a => ho (B a) (nI t)) ac) * 2 ≤ nI ac)) (fun t => (1 : Int32) <<< (nI t &&& 31)) tc) ch (nI (ex U Z nc (pw tc))) ((spx (fun k => zz U Z nc k) (pw tc)).1) ((if decide (mnf (mis U Z nc) (nI nc) (pw tc) = 0) = true then anf (fun k => zz U Z nc k) (nI (pw tc - 1)) (pw tc) else -1))) tc) nc) ac) (dg_eq hu hz hnc htc B L ch) ?_
  refine lv_leq (tgt := 1543) hx hb rfl dL_law_1537 dL_law_1538 (by decide) ?_
  refine W.widen (k := cells + 9) (n := slots + 58) (by omega) (by omega) ?_
  exact kk _ _ _ ⟨0, tc, nc, ac, ch, U, Z, V, Y, B, L, F, f, hS, hP, hD, htc, hnc, hac, hu, hz, hB, hB0, lv_sub hl [0, 1, 2, 3, 4] rfl⟩
