/-! the law: things, all sets that explain, what follows -/
theorem orf_f0 {p : Nat → Bool} {f : Nat → Int32} {n : Nat} (h : p n = false) : orf p f n ||| 0 = orf p f (n + 1) := by
  rw [← orf_f h]; exact Int32.or_zero
theorem shl_pw {tc : Nat} (h : tc ≤ 8) : ((1 : Int32) <<< (nI tc &&& 31)) = nI (pw tc) := by
  have k : ∀ t, t < 9 → ((1 : Int32) <<< (nI t &&& 31)) = nI (2 ^ t) := by decide +kernel
  exact k tc (by omega)
theorem smp_m {U : Nat → Int32} {Z : Nat → Bool} {nc tc : Nat} (ht : tc ≤ 8) (h : ¬ nI (ct (fun k => zz U Z nc k) (pw tc)) ≤ 0) : ∃ m, m < pw tc ∧ (spx (fun k => zz U Z nc k) (pw tc)).1 = nI m ∧ zz U Z nc m = true := by
  have h1 : 0 < ct (fun k => zz U Z nc k) (pw tc) := by
    rcases Nat.eq_zero_or_pos (ct (fun k => zz U Z nc k) (pw tc)) with z | z
    · exact absurd (by rw [z]; decide) h
    · exact z
  obtain ⟨k, hk, hz⟩ := anyb_ex (ct_any.mp h1)
  obtain ⟨m, a, b, d, -⟩ := smp_k ht hk hz
  exact ⟨m, a, b, d⟩
theorem fw_f {U : Nat → Int32} {Z : Nat → Bool} {nc n : Nat} (h : zz U Z nc n = false) : (fun t => nI (ct (fun k => zz U Z nc k && ho (nI k) (nI t)) n)) = (fun t => nI (ct (fun k => zz U Z nc k && ho (nI k) (nI t)) (n + 1))) := by
  funext t
  exact ct_f (p := fun k => zz U Z nc k && ho (nI k) (nI t)) (by rw [h, Bool.false_and])
theorem fw_s {U : Nat → Int32} {Z : Nat → Bool} {nc n t : Nat} (h : zz U Z nc n = true) : nI (ct (fun k => zz U Z nc k && ho (nI k) (nI t)) n) + bI (ho (nI n) (nI t)) = nI (ct (fun k => zz U Z nc k && ho (nI k) (nI t)) (n + 1)) := by
  rw [← ct_bI (fun k => zz U Z nc k && ho (nI k) (nI t)) n, h, Bool.true_and]
set_option maxHeartbeats 8000000 in
set_option maxRecDepth 100000 in
theorem sg_2 (l : Launch) {p : Program} {e : Env} {s : State} {m : MethodId} {below : List Frame} {meth : Method} {c : Code} {b N : Nat} {xs : Nat → Int32} {D : va_G} {cI cZ cR : ClassId} {q : Nat → Nat} {Q : State → Prop} {H : Heap} {locs : List Loc} {ls : Array Slot} {cells slots cE sE i : Nat} {x : Int32} {r nr ar : Nat → Nat} {tc nc ac : Nat} {ch : Int32} {U : Nat → Int32} {Z : Nat → Bool} {B L F : Nat → Int32} (C : LC l p s m c b N xs D cI cZ cR) (hG : Gd tc nc ac U B L F) (hS : va_S (lA s) s.heap H locs) (hP : va_P D vwCl (wX cI cZ q tc nc ac ch U Z B L F ++ wS cI cR r nr ar tc nc ac ch U Z B L F) H) (hD : va_D (lA s) (wX cI cZ q tc nc ac ch U Z B L F ++ wS cI cR r nr ar tc nc ac ch U Z B L F)) (hl : lv_has ls 28 [(4, .int x), (3, .int (nI i)), (2, .ref (r 0)), (1, .ref (q 0)), (0, .ref b)]) (hcl : cells + 2200 ≤ 600172) (hsl : slots + 302000 ≤ 7300668) (hcE : cells + 600 ≤ cE) (hsE : slots + 70000 ≤ sE) (KN : ∀ (H : Heap) (locs : List Loc) (ls : Array Slot), XS D cI cZ cR q (r 0) (lA s) H → va_S (lA s) s.heap H locs → lv_has ls 28 [(3, .int (nI i)), (2, .ref (r 0)), (1, .ref (q 0)), (0, .ref b)] → W p l e room_1 s m #[Value.ref b] below meth c H locs cE sE Q (F0 m 1183 ls [])) : W p l e room_1 s m #[Value.ref b] below meth c H locs cells slots Q (F0 m 82 ls []) := by
  obtain ⟨hx, hb, hml, hown, hts, hX, hbl, hN, hKL, hov, hnst⟩ := id C
  obtain ⟨⟨htc1, htc⟩, hnc, hac, hU, hB, hL9, hF9⟩ := id hG
  have hpw := pw_in htc
  have hpw2 : 2 ≤ pw tc := pw_mono htc1
  have hK : va_K D vwCl (tyS cI cR) s := hKL.sub [0, 2] rfl
  have hKX : va_K D vwCl (tyA cI cZ) s := hKL.sub [0, 1] rfl
  have hA : ∀ z : Nat, s.heap.size ≤ z → lA s z := fun _ h => h
  have hPX : va_P D vwCl (wX cI cZ q tc nc ac ch U Z B L F) H := P_l hP
  have hPS : va_P D vwCl (wS cI cR r nr ar tc nc ac ch U Z B L F) H := P_r hP
  refine lv_aload_n hx hb dL_law_82 rfl (lv_at hl 3 rfl) ?_
  refine pcV_l (As := []) (rest := []) ⟨hx, hb, hml, hown, hts⟩ (g_X_digestV l hPX htc hnc hac hB) (cwV 0 hts gL_law_X0_digest rfl rfl rfl hdX0_digest ⟨Nat.le_of_ble_eq_true rfl, Nat.le_of_ble_eq_true rfl⟩) (va_recv hKX hPX (ci := 0) (q0 := 0) rfl rfl) hKX rfl hl.1 (Nat.le_of_ble_eq_true rfl) rfl dL_law_83 ⟨by show cells ≤ 600172; omega, by show slots ≤ 7300668; omega⟩ ?_
  refine lv_lstore (lv' := [(5, .long (dgX tc nc ac ch U Z B L F)), (4, .int x), (3, .int (nI i)), (2, .ref (r 0)), (1, .ref (q 0)), (0, .ref b)]) hx hb dL_law_86 hl (by decide) rfl (fun ls hl => ?_)
  refine lv_aload_n hx hb dL_law_88 rfl (lv_at hl 4 rfl) ?_
  refine pcV_i (As := []) (rest := []) ⟨hx, hb, hml, hown, hts⟩ (g_X_things l hPX htc hnc hac) (cwV 0 hts gL_law_X0_things rfl rfl rfl hdX0_things ⟨Nat.le_of_ble_eq_true rfl, Nat.le_of_ble_eq_true rfl⟩) (va_recv hKX hPX (ci := 0) (q0 := 0) rfl rfl) hKX rfl hl.1 (Nat.le_of_ble_eq_true rfl) rfl dL_law_89 ⟨by show cells ≤ 600172; omega, by show slots ≤ 7300668; omega⟩ ?_
  refine lv_istore (lv' := [(7, .int (nI tc)), (5, .long (dgX tc nc ac ch U Z B L F)), (4, .int x), (3, .int (nI i)), (2, .ref (r 0)), (1, .ref (q 0)), (0, .ref b)]) hx hb dL_law_92 hl (by decide) rfl (fun ls hl => ?_)
  refine lv_aload_n hx hb dL_law_94 rfl (lv_at hl 5 rfl) ?_
  refine pcV_i (As := []) (rest := []) ⟨hx, hb, hml, hown, hts⟩ (g_X_simplest l hPX htc hnc hac) (cwV 0 hts gL_law_X0_simplest rfl rfl rfl hdX0_simplest ⟨Nat.le_of_ble_eq_true rfl, Nat.le_of_ble_eq_true rfl⟩) (va_recv hKX hPX (ci := 0) (q0 := 0) rfl rfl) hKX rfl hl.1 (Nat.le_of_ble_eq_true rfl) rfl dL_law_95 ⟨by show cells ≤ 600172; omega, by show slots ≤ 7300668; omega⟩ ?_
  refine lv_istore (lv' := [(8, .int ((spx (fun k => zz U Z nc k) (pw tc)).1)), (7, .int (nI tc)), (5, .long (dgX tc nc ac ch U Z B L F)), (4, .int x), (3, .int (nI i)), (2, .ref (r 0)), (1, .ref (q 0)), (0, .ref b)]) hx hb dL_law_98 hl (by decide) rfl (fun ls hl => ?_)
  refine lv_aload_n hx hb dL_law_100 rfl (lv_at hl 6 rfl) ?_
  refine pcV_i (As := []) (rest := []) ⟨hx, hb, hml, hown, hts⟩ (g_X_surelyToBlame l hPX htc hnc hac) (cwV 0 hts gL_law_X0_surelyToBlame rfl rfl rfl hdX0_surelyToBlame ⟨Nat.le_of_ble_eq_true rfl, Nat.le_of_ble_eq_true rfl⟩) (va_recv hKX hPX (ci := 0) (q0 := 0) rfl rfl) hKX rfl hl.1 (Nat.le_of_ble_eq_true rfl) rfl dL_law_101 ⟨by show cells ≤ 600172; omega, by show slots ≤ 7300668; omega⟩ ?_
  refine lv_istore (lv' := [(9, .int (suX U Z nc tc)), (8, .int ((spx (fun k => zz U Z nc k) (pw tc)).1)), (7, .int (nI tc)), (5, .long (dgX tc nc ac ch U Z B L F)), (4, .int x), (3, .int (nI i)), (2, .ref (r 0)), (1, .ref (q 0)), (0, .ref b)]) hx hb dL_law_104 hl (by decide) rfl (fun ls hl => ?_)
  refine lv_iconst (v := 0) hx hb dL_law_106 (by decide) ?_
  refine lv_istore (lv' := [(10, .int 0), (9, .int (suX U Z nc tc)), (8, .int ((spx (fun k => zz U Z nc k) (pw tc)).1)), (7, .int (nI tc)), (5, .long (dgX tc nc ac ch U Z B L F)), (4, .int x), (3, .int (nI i)), (2, .ref (r 0)), (1, .ref (q 0)), (0, .ref b)]) hx hb dL_law_107 hl (by decide) rfl (fun ls hl => ?_)
  refine lv_iconst (v := 0) hx hb dL_law_109 (by decide) ?_
  refine lv_istore (lv' := [(11, .int 0), (10, .int 0), (9, .int (suX U Z nc tc)), (8, .int ((spx (fun k => zz U Z nc k) (pw tc)).1)), (7, .int (nI tc)), (5, .long (dgX tc nc ac ch U Z B L F)), (4, .int x), (3, .int (nI i)), (2, .ref (r 0)), (1, .ref (q 0)), (0, .ref b)]) hx hb dL_law_110 hl (by decide) rfl (fun ls hl => ?_)
  refine lv_iconst (v := 0) hx hb dL_law_112 (by decide) ?_
  refine lv_istore (lv' := [(12, .int 0), (11, .int 0), (10, .int 0), (9, .int (suX U Z nc tc)), (8, .int ((spx (fun k => zz U Z nc k) (pw tc)).1)), (7, .int (nI tc)), (5, .long (dgX tc nc ac ch U Z B L F)), (4, .int x), (3, .int (nI i)), (2, .ref (r 0)), (1, .ref (q 0)), (0, .ref b)]) hx hb dL_law_113 hl (by decide) rfl (fun ls hl => ?_)
  refine lv_iload hx hb dL_law_115 (lv_at hl 5 rfl) ?_
  refine va_newa (atype := .int) (ty := .int) (N' := tc) (a0 := (tc, .inl (fun _ => 0))) hx hb (hts (.arrayClass .int) (List.mem_of_getElem? (i := 3) rfl)) rfl hK hP hD hS hA (fun _ => rfl) (nI_pos (by omega)) (nI_clamp (by omega)) (by show tc * 4 ≤ 536870912; omega) (by show cells + 1 ≤ 600172; omega) (by show slots + tc ≤ 7300668; omega) dL_law_117 (fun a13 k_a13 H hK1 hP hD hS => ?_)
  have e_a13 : cI = k_a13 := ty_uniq hK1 (i := 0) (j := 2) rfl rfl
  subst e_a13
  clear hK1
  have hP : va_P D vwCl ((wX cI cZ q tc nc ac ch U Z B L F ++ wS cI cR r nr ar tc nc ac ch U Z B L F) ++ [(a13, .inl (cI, tc, .inl (fun _ => 0)))]) H := hP
  have hD : va_D (lA s) ((wX cI cZ q tc nc ac ch U Z B L F ++ wS cI cR r nr ar tc nc ac ch U Z B L F) ++ [(a13, .inl (cI, tc, .inl (fun _ => 0)))]) := hD
  have hPX : va_P D vwCl (wX cI cZ q tc nc ac ch U Z B L F) H := P_l (P_l hP)
  have hPS : va_P D vwCl (wS cI cR r nr ar tc nc ac ch U Z B L F) H := P_r (P_l hP)
  have hPT : va_P D vwCl [(a13, .inl (cI, tc, .inl (fun _ => 0)))] H := P_r hP
  refine lv_astore (lv' := [(13, .ref a13), (12, .int 0), (11, .int 0), (10, .int 0), (9, .int (suX U Z nc tc)), (8, .int ((spx (fun k => zz U Z nc k) (pw tc)).1)), (7, .int (nI tc)), (5, .long (dgX tc nc ac ch U Z B L F)), (4, .int x), (3, .int (nI i)), (2, .ref (r 0)), (1, .ref (q 0)), (0, .ref b)]) hx hb dL_law_119 hl (by decide) rfl (fun ls hl => ?_)
  refine lv_iconst (v := 0) hx hb dL_law_121 (by decide) ?_
  refine lv_istore (lv' := [(14, .int 0), (13, .ref a13), (12, .int 0), (11, .int 0), (10, .int 0), (9, .int (suX U Z nc tc)), (8, .int ((spx (fun k => zz U Z nc k) (pw tc)).1)), (7, .int (nI tc)), (5, .long (dgX tc nc ac ch U Z B L F)), (4, .int x), (3, .int (nI i)), (2, .ref (r 0)), (1, .ref (q 0)), (0, .ref b)]) hx hb dL_law_122 hl (by decide) rfl (fun ls hl => ?_)
  refine w_loop (N := tc) (T := fun i9 => [(14, .int (nI i9)), (13, .ref a13), (12, .int (orf (fun t => anyb (fun j => Z j && ho (U j) (nI t) && decide (U j &&& ((cld U Z nc ||| ((1 : Int32) <<< (nI t &&& 31))) ^^^ (-1)) = 0)) nc) (fun t => (1 : Int32) <<< (nI t &&& 31)) i9)), (11, .int (orf (fun t => ho (cld U Z nc) (nI t)) (fun t => (1 : Int32) <<< (nI t &&& 31)) i9)), (10, .int 0), (9, .int (suX U Z nc tc)), (8, .int ((spx (fun k => zz U Z nc k) (pw tc)).1)), (7, .int (nI tc)), (5, .long (dgX tc nc ac ch U Z B L F)), (4, .int x), (3, .int (nI i)), (2, .ref (r 0)), (1, .ref (q 0)), (0, .ref b)]) (I := fun _ => True) 0 (Nat.zero_le _) trivial (lv_sub hl [0, 1, 2, 3, 4, 5, 6, 7, 8, 9, 10, 11, 12, 13] rfl) (fun i9 ls hi9 hI9 hl ih9 => ?_)
  have hl : lv_has ls 28 [(14, .int (nI i9)), (13, .ref a13), (12, .int (orf (fun t => anyb (fun j => Z j && ho (U j) (nI t) && decide (U j &&& ((cld U Z nc ||| ((1 : Int32) <<< (nI t &&& 31))) ^^^ (-1)) = 0)) nc) (fun t => (1 : Int32) <<< (nI t &&& 31)) i9)), (11, .int (orf (fun t => ho (cld U Z nc) (nI t)) (fun t => (1 : Int32) <<< (nI t &&& 31)) i9)), (10, .int 0), (9, .int (suX U Z nc tc)), (8, .int ((spx (fun k => zz U Z nc k) (pw tc)).1)), (7, .int (nI tc)), (5, .long (dgX tc nc ac ch U Z B L F)), (4, .int x), (3, .int (nI i)), (2, .ref (r 0)), (1, .ref (q 0)), (0, .ref b)] := hl
  refine lv_iload hx hb dL_law_124 (lv_at hl 0 rfl) ?_
  refine lv_iload hx hb dL_law_126 (lv_at hl 7 rfl) ?_
  refine lv_icmp_ge (tgt := 245) hx hb dL_law_128 (by decide) (fun c128 => ?_) (fun c128 => ?_)
  · skip
    have hie9 : i9 = tc := gd_ge_t (by omega) hi9 c128
    rw [hie9] at hl
    refine lv_iconst (v := 0) hx hb dL_law_245 (by decide) ?_
    refine lv_istore (lv' := [(14, .int 0), (13, .ref a13), (12, .int (orf (fun t => anyb (fun j => Z j && ho (U j) (nI t) && decide (U j &&& ((cld U Z nc ||| ((1 : Int32) <<< (nI t &&& 31))) ^^^ (-1)) = 0)) nc) (fun t => (1 : Int32) <<< (nI t &&& 31)) tc)), (11, .int (orf (fun t => ho (cld U Z nc) (nI t)) (fun t => (1 : Int32) <<< (nI t &&& 31)) tc)), (10, .int 0), (9, .int (suX U Z nc tc)), (8, .int ((spx (fun k => zz U Z nc k) (pw tc)).1)), (7, .int (nI tc)), (5, .long (dgX tc nc ac ch U Z B L F)), (4, .int x), (3, .int (nI i)), (2, .ref (r 0)), (1, .ref (q 0)), (0, .ref b)]) hx hb dL_law_246 hl (by decide) rfl (fun ls hl => ?_)
    refine w_loopG (N := pw tc) (I := fun i9 ls H locs => lv_has ls 28 [(14, .int (nI i9)), (13, .ref a13), (12, .int (orf (fun t => anyb (fun j => Z j && ho (U j) (nI t) && decide (U j &&& ((cld U Z nc ||| ((1 : Int32) <<< (nI t &&& 31))) ^^^ (-1)) = 0)) nc) (fun t => (1 : Int32) <<< (nI t &&& 31)) tc)), (11, .int (orf (fun t => ho (cld U Z nc) (nI t)) (fun t => (1 : Int32) <<< (nI t &&& 31)) tc)), (10, .int (nI (ct (fun k => zz U Z nc k) i9))), (9, .int (suX U Z nc tc)), (8, .int ((spx (fun k => zz U Z nc k) (pw tc)).1)), (7, .int (nI tc)), (5, .long (dgX tc nc ac ch U Z B L F)), (4, .int x), (3, .int (nI i)), (2, .ref (r 0)), (1, .ref (q 0)), (0, .ref b)] ∧ va_P D vwCl ((wX cI cZ q tc nc ac ch U Z B L F ++ wS cI cR r nr ar tc nc ac ch U Z B L F) ++ [(a13, .inl (cI, tc, .inl (fun t => nI (ct (fun k => zz U Z nc k && ho (nI k) (nI t)) i9))))]) H ∧ va_D (lA s) ((wX cI cZ q tc nc ac ch U Z B L F ++ wS cI cR r nr ar tc nc ac ch U Z B L F) ++ [(a13, .inl (cI, tc, .inl (fun t => nI (ct (fun k => zz U Z nc k && ho (nI k) (nI t)) i9))))]) ∧ va_S (lA s) s.heap H locs) (cf := fun _ => cells + 1) (sf := fun _ => slots + tc) 0 (Nat.zero_le _) ⟨lv_sub hl [0, 1, 2, 3, 4, 5, 6, 7, 8, 9, 10, 11, 12, 13] rfl, hP, hD, hS⟩ (fun i9 ls H locs hi9 hi0 hI ih => ?_)
    obtain ⟨hl, hP, hD, hS⟩ := hI
    have hP : va_P D vwCl ((wX cI cZ q tc nc ac ch U Z B L F ++ wS cI cR r nr ar tc nc ac ch U Z B L F) ++ [(a13, .inl (cI, tc, .inl (fun t => nI (ct (fun k => zz U Z nc k && ho (nI k) (nI t)) i9))))]) H := hP
    have hD : va_D (lA s) ((wX cI cZ q tc nc ac ch U Z B L F ++ wS cI cR r nr ar tc nc ac ch U Z B L F) ++ [(a13, .inl (cI, tc, .inl (fun t => nI (ct (fun k => zz U Z nc k && ho (nI k) (nI t)) i9))))]) := hD
    have hPX : va_P D vwCl (wX cI cZ q tc nc ac ch U Z B L F) H := P_l (P_l hP)
    have hPS : va_P D vwCl (wS cI cR r nr ar tc nc ac ch U Z B L F) H := P_r (P_l hP)
    have hPT : va_P D vwCl [(a13, .inl (cI, tc, .inl (fun t => nI (ct (fun k => zz U Z nc k && ho (nI k) (nI t)) i9))))] H := P_r hP
    refine lv_iload hx hb dL_law_248 (lv_at hl 0 rfl) ?_
    refine lv_iconst (v := 1) hx hb dL_law_250 (by decide) ?_
    refine lv_iload hx hb dL_law_251 (lv_at hl 7 rfl) ?_
    refine lv_ishl hx hb dL_law_253 ?_
    refine lv_cst (y := nI (pw tc)) (shl_pw htc) ?_
    refine lv_icmp_ge (tgt := 372) hx hb dL_law_254 (by decide) (fun c254 => ?_) (fun c254 => ?_)
    · have hie : i9 = pw tc := gd_ge_t (by omega) hi9 c254
      rw [hie] at hl hP hD
      clear ih hPX hPS hPT
      have hP : va_P D vwCl ((wX cI cZ q tc nc ac ch U Z B L F ++ wS cI cR r nr ar tc nc ac ch U Z B L F) ++ [(a13, .inl (cI, tc, .inl (fun t => nI (ct (fun k => zz U Z nc k && ho (nI k) (nI t)) (pw tc)))))]) H := hP
      have hD : va_D (lA s) ((wX cI cZ q tc nc ac ch U Z B L F ++ wS cI cR r nr ar tc nc ac ch U Z B L F) ++ [(a13, .inl (cI, tc, .inl (fun t => nI (ct (fun k => zz U Z nc k && ho (nI k) (nI t)) (pw tc)))))]) := hD
      have hPX : va_P D vwCl (wX cI cZ q tc nc ac ch U Z B L F) H := P_l (P_l hP)
      have hPS : va_P D vwCl (wS cI cR r nr ar tc nc ac ch U Z B L F) H := P_r (P_l hP)
      have hPT : va_P D vwCl [(a13, .inl (cI, tc, .inl (fun t => nI (ct (fun k => zz U Z nc k && ho (nI k) (nI t)) (pw tc)))))] H := P_r hP
      refine lv_iload hx hb dL_law_372 (lv_at hl 4 rfl) ?_
      refine lv_aload_n hx hb dL_law_374 rfl (lv_at hl 12 rfl) ?_
      refine pcV_i (As := []) (rest := [.int (nI (ct (fun k => zz U Z nc k) (pw tc)))]) ⟨hx, hb, hml, hown, hts⟩ (g_X_explanations l hPX htc hnc hac) (cwV 0 hts gL_law_X0_explanations rfl rfl rfl hdX0_explanations ⟨Nat.le_of_ble_eq_true rfl, Nat.le_of_ble_eq_true rfl⟩) (va_recv hKX hPX (ci := 0) (q0 := 0) rfl rfl) hKX rfl hl.1 (Nat.le_of_ble_eq_true rfl) rfl dL_law_375 ⟨by show cells + 1 ≤ 600172; omega, by show slots + tc ≤ 7300668; omega⟩ ?_
      refine lv_icmp_ne (tgt := 476) hx hb dL_law_378 (by decide) (fun c378 => absurd rfl c378) (fun c378 => ?_)
      refine lv_aload_n hx hb dL_law_381 rfl (lv_at hl 12 rfl) ?_
      refine pcV_i (As := []) (rest := []) ⟨hx, hb, hml, hown, hts⟩ (g_X_agree l hPX htc hnc hac) (cwV 0 hts gL_law_X0_agree rfl rfl rfl hdX0_agree ⟨Nat.le_of_ble_eq_true rfl, Nat.le_of_ble_eq_true rfl⟩) (va_recv hKX hPX (ci := 0) (q0 := 0) rfl rfl) hKX rfl hl.1 (Nat.le_of_ble_eq_true rfl) rfl dL_law_382 ⟨by show cells + 1 ≤ 600172; omega, by show slots + tc ≤ 7300668; omega⟩ ?_
      refine lv_iload hx hb dL_law_385 (lv_at hl 4 rfl) ?_
      refine lv_gt0 (t0 := 394) hx hb dL_law_387 dL_law_390 dL_law_391 dL_law_394 (by decide) (by decide) ?_
      refine lv_icmp_ne (tgt := 476) hx hb dL_law_395 (by decide) (fun c395 => absurd (ag_pos U Z hnc htc) c395) (fun c395 => ?_)
      refine lv_aload_n hx hb dL_law_398 rfl (lv_at hl 12 rfl) ?_
      refine pcV_i (As := []) (rest := []) ⟨hx, hb, hml, hown, hts⟩ (g_X_agree l hPX htc hnc hac) (cwV 0 hts gL_law_X0_agree rfl rfl rfl hdX0_agree ⟨Nat.le_of_ble_eq_true rfl, Nat.le_of_ble_eq_true rfl⟩) (va_recv hKX hPX (ci := 0) (q0 := 0) rfl rfl) hKX rfl hl.1 (Nat.le_of_ble_eq_true rfl) rfl dL_law_399 ⟨by show cells + 1 ≤ 600172; omega, by show slots + tc ≤ 7300668; omega⟩ ?_
      refine lv_aload_n hx hb dL_law_402 rfl (lv_at hl 12 rfl) ?_
      refine pcV_i (As := []) (rest := [.int (bI (decide (mnf (mis U Z nc) (nI nc) (pw tc) = 0)))]) ⟨hx, hb, hml, hown, hts⟩ (g_X_nightsToDoubt l hPX htc hnc hac) (cwV 0 hts gL_law_X0_nightsToDoubt rfl rfl rfl hdX0_nightsToDoubt ⟨Nat.le_of_ble_eq_true rfl, Nat.le_of_ble_eq_true rfl⟩) (va_recv hKX hPX (ci := 0) (q0 := 0) rfl rfl) hKX rfl hl.1 (Nat.le_of_ble_eq_true rfl) rfl dL_law_403 ⟨by show cells + 1 ≤ 600172; omega, by show slots + tc ≤ 7300668; omega⟩ ?_
      refine lv_e0 (t0 := 413) hx hb dL_law_406 dL_law_409 dL_law_410 dL_law_413 (by decide) (by decide) ?_
      refine lv_icmp_ne (tgt := 476) hx hb dL_law_414 (by decide) (fun c414 => absurd rfl c414) (fun c414 => ?_)
      refine lv_aload_n hx hb dL_law_417 rfl (lv_at hl 12 rfl) ?_
      refine pcV_i (As := []) (rest := []) ⟨hx, hb, hml, hown, hts⟩ (g_X_agree l hPX htc hnc hac) (cwV 0 hts gL_law_X0_agree rfl rfl rfl hdX0_agree ⟨Nat.le_of_ble_eq_true rfl, Nat.le_of_ble_eq_true rfl⟩) (va_recv hKX hPX (ci := 0) (q0 := 0) rfl rfl) hKX rfl hl.1 (Nat.le_of_ble_eq_true rfl) rfl dL_law_418 ⟨by show cells + 1 ≤ 600172; omega, by show slots + tc ≤ 7300668; omega⟩ ?_
      refine lv_iload hx hb dL_law_421 (lv_at hl 6 rfl) ?_
      refine lv_ge0 (t0 := 430) hx hb dL_law_423 dL_law_426 dL_law_427 dL_law_430 (by decide) (by decide) ?_
      refine lv_icmp_ne (tgt := 476) hx hb dL_law_431 (by decide) (fun c431 => absurd (ag_smp hnc htc) c431) (fun c431 => ?_)
      refine lv_aload_n hx hb dL_law_434 rfl (lv_at hl 12 rfl) ?_
      refine pcV_i (As := []) (rest := []) ⟨hx, hb, hml, hown, hts⟩ (g_X_agree l hPX htc hnc hac) (cwV 0 hts gL_law_X0_agree rfl rfl rfl hdX0_agree ⟨Nat.le_of_ble_eq_true rfl, Nat.le_of_ble_eq_true rfl⟩) (va_recv hKX hPX (ci := 0) (q0 := 0) rfl rfl) hKX rfl hl.1 (Nat.le_of_ble_eq_true rfl) rfl dL_law_435 ⟨by show cells + 1 ≤ 600172; omega, by show slots + tc ≤ 7300668; omega⟩ ?_
      refine lv_iload hx hb dL_law_438 (lv_at hl 5 rfl) ?_
      refine lv_ge0 (t0 := 447) hx hb dL_law_440 dL_law_443 dL_law_444 dL_law_447 (by decide) (by decide) ?_
      refine lv_icmp_ne (tgt := 476) hx hb dL_law_448 (by decide) (fun c448 => absurd (ag_sue hnc htc) c448) (fun c448 => ?_)
      refine lv_iload hx hb dL_law_451 (lv_at hl 4 rfl) ?_
      refine lv_fork (fun _ : Unit => F0 m 465 ls []) (fun u9 => ?_) (fun K => ?_)
      · skip
        refine lv_aload_n hx hb dL_law_465 rfl (lv_at hl 12 rfl) ?_
        refine pcV_i (As := []) (rest := []) ⟨hx, hb, hml, hown, hts⟩ (g_X_nightsToDoubt l hPX htc hnc hac) (cwV 0 hts gL_law_X0_nightsToDoubt rfl rfl rfl hdX0_nightsToDoubt ⟨Nat.le_of_ble_eq_true rfl, Nat.le_of_ble_eq_true rfl⟩) (va_recv hKX hPX (ci := 0) (q0 := 0) rfl rfl) hKX rfl hl.1 (Nat.le_of_ble_eq_true rfl) rfl dL_law_466 ⟨by show cells + 1 ≤ 600172; omega, by show slots + tc ≤ 7300668; omega⟩ ?_
        refine lv_aload_n hx hb dL_law_469 rfl (lv_at hl 12 rfl) ?_
        refine pcV_i (As := []) (rest := [.int (mnf (mis U Z nc) (nI nc) (pw tc))]) ⟨hx, hb, hml, hown, hts⟩ (g_X_nights l hPX htc hnc hac) (cwV 0 hts gL_law_X0_nights rfl rfl rfl hdX0_nights ⟨Nat.le_of_ble_eq_true rfl, Nat.le_of_ble_eq_true rfl⟩) (va_recv hKX hPX (ci := 0) (q0 := 0) rfl rfl) hKX rfl hl.1 (Nat.le_of_ble_eq_true rfl) rfl dL_law_470 ⟨by show cells + 1 ≤ 600172; omega, by show slots + tc ≤ 7300668; omega⟩ ?_
        refine lv_icmp_le (tgt := 478) hx hb dL_law_473 (by decide) (fun c473 => ?_) (fun c473 => absurd (doubt_le hnc _) c473)
        exact sg_3 l C hG hS hP hD (lv_sub hl [1, 4, 5, 6, 7, 8, 9, 10, 11, 12, 13] rfl) (by omega) (by omega) (by omega) (by omega) KN
      · refine lv_if_le (tgt := 465) hx hb dL_law_453 (by decide) (fun c453 => K ()) (fun c453 => ?_)
        obtain ⟨ks, hks, eks, hzs⟩ := smp_m htc c453
        refine lv_aload_n hx hb dL_law_456 rfl (lv_at hl 12 rfl) ?_
        refine lv_iload hx hb dL_law_457 (lv_at hl 6 rfl) ?_
        refine lv_cst (y := nI ks) eks ?_
        refine pcV_i (As := [.int (nI ks)]) (rest := []) ⟨hx, hb, hml, hown, hts⟩ (g_X_explainsAll l hPX htc hnc hac (k := ks) hks) (cwV 1 hts gL_law_X0_explainsAll rfl rfl rfl hdX0_explainsAll ⟨Nat.le_of_ble_eq_true rfl, Nat.le_of_ble_eq_true rfl⟩) (va_recv hKX hPX (ci := 0) (q0 := 0) rfl rfl) hKX rfl hl.1 (Nat.le_of_ble_eq_true rfl) rfl dL_law_459 ⟨by show cells + 1 ≤ 600172; omega, by show slots + tc ≤ 7300668; omega⟩ ?_
        refine lv_ifb_eq (tgt := 476) hx hb dL_law_462 (by decide) (fun c462 => by rw [hzs] at c462; cases c462) (fun c462 => K ())
    · have hlt9 : i9 < pw tc := gd_ge_f hi9 c254
      refine lv_aload_n hx hb dL_law_257 rfl (lv_at hl 12 rfl) ?_
      refine lv_iload hx hb dL_law_258 (lv_at hl 0 rfl) ?_
      refine pcV_i (As := [.int (nI i9)]) (rest := []) ⟨hx, hb, hml, hown, hts⟩ (g_X_explainsAll l hPX htc hnc hac (k := i9) hlt9) (cwV 1 hts gL_law_X0_explainsAll rfl rfl rfl hdX0_explainsAll ⟨Nat.le_of_ble_eq_true rfl, Nat.le_of_ble_eq_true rfl⟩) (va_recv hKX hPX (ci := 0) (q0 := 0) rfl rfl) hKX rfl hl.1 (Nat.le_of_ble_eq_true rfl) rfl dL_law_260 ⟨by show cells + 1 ≤ 600172; omega, by show slots + tc ≤ 7300668; omega⟩ ?_
      refine lv_ifb_ne (tgt := 269) hx hb dL_law_263 (by decide) (fun hz => ?_) (fun hz => ?_)
      · skip
        refine lv_iinc (v := nI ((ct (fun k => zz U Z nc k) i9) + 1)) (lv' := [(10, .int (nI ((ct (fun k => zz U Z nc k) i9) + 1))), (14, .int (nI i9)), (13, .ref a13), (12, .int (orf (fun t => anyb (fun j => Z j && ho (U j) (nI t) && decide (U j &&& ((cld U Z nc ||| ((1 : Int32) <<< (nI t &&& 31))) ^^^ (-1)) = 0)) nc) (fun t => (1 : Int32) <<< (nI t &&& 31)) tc)), (11, .int (orf (fun t => ho (cld U Z nc) (nI t)) (fun t => (1 : Int32) <<< (nI t &&& 31)) tc)), (9, .int (suX U Z nc tc)), (8, .int ((spx (fun k => zz U Z nc k) (pw tc)).1)), (7, .int (nI tc)), (5, .long (dgX tc nc ac ch U Z B L F)), (4, .int x), (3, .int (nI i)), (2, .ref (r 0)), (1, .ref (q 0)), (0, .ref b)]) hx hb dL_law_269 hl (k := 4) rfl (nI_1 _) (by decide) rfl (fun ls hl => ?_)
        refine lv_iconst (v := 0) hx hb dL_law_272 (by decide) ?_
        refine lv_istore (lv' := [(15, .int 0), (10, .int (nI ((ct (fun k => zz U Z nc k) i9) + 1))), (14, .int (nI i9)), (13, .ref a13), (12, .int (orf (fun t => anyb (fun j => Z j && ho (U j) (nI t) && decide (U j &&& ((cld U Z nc ||| ((1 : Int32) <<< (nI t &&& 31))) ^^^ (-1)) = 0)) nc) (fun t => (1 : Int32) <<< (nI t &&& 31)) tc)), (11, .int (orf (fun t => ho (cld U Z nc) (nI t)) (fun t => (1 : Int32) <<< (nI t &&& 31)) tc)), (9, .int (suX U Z nc tc)), (8, .int ((spx (fun k => zz U Z nc k) (pw tc)).1)), (7, .int (nI tc)), (5, .long (dgX tc nc ac ch U Z B L F)), (4, .int x), (3, .int (nI i)), (2, .ref (r 0)), (1, .ref (q 0)), (0, .ref b)]) hx hb dL_law_273 hl (by decide) rfl (fun ls hl => ?_)
        refine w_loopG (N := tc) (I := fun j8 ls H locs => lv_has ls 28 [(15, .int (nI j8)), (14, .int (nI i9)), (13, .ref a13), (12, .int (orf (fun t => anyb (fun j => Z j && ho (U j) (nI t) && decide (U j &&& ((cld U Z nc ||| ((1 : Int32) <<< (nI t &&& 31))) ^^^ (-1)) = 0)) nc) (fun t => (1 : Int32) <<< (nI t &&& 31)) tc)), (11, .int (orf (fun t => ho (cld U Z nc) (nI t)) (fun t => (1 : Int32) <<< (nI t &&& 31)) tc)), (10, .int (nI (ct (fun k => zz U Z nc k) i9 + 1))), (9, .int (suX U Z nc tc)), (8, .int ((spx (fun k => zz U Z nc k) (pw tc)).1)), (7, .int (nI tc)), (5, .long (dgX tc nc ac ch U Z B L F)), (4, .int x), (3, .int (nI i)), (2, .ref (r 0)), (1, .ref (q 0)), (0, .ref b)] ∧ va_P D vwCl ((wX cI cZ q tc nc ac ch U Z B L F ++ wS cI cR r nr ar tc nc ac ch U Z B L F) ++ [(a13, .inl (cI, tc, .inl (mrg (fun t => nI (ct (fun k => zz U Z nc k && ho (nI k) (nI t)) (i9 + 1))) (fun t => nI (ct (fun k => zz U Z nc k && ho (nI k) (nI t)) i9)) j8)))]) H ∧ va_D (lA s) ((wX cI cZ q tc nc ac ch U Z B L F ++ wS cI cR r nr ar tc nc ac ch U Z B L F) ++ [(a13, .inl (cI, tc, .inl (mrg (fun t => nI (ct (fun k => zz U Z nc k && ho (nI k) (nI t)) (i9 + 1))) (fun t => nI (ct (fun k => zz U Z nc k && ho (nI k) (nI t)) i9)) j8)))]) ∧ va_S (lA s) s.heap H locs) (cf := fun _ => cells + 1) (sf := fun _ => slots + tc) 0 (Nat.zero_le _) ⟨lv_sub hl [0, 2, 3, 4, 5, 1, 6, 7, 8, 9, 10, 11, 12, 13, 14] rfl, hP, hD, hS⟩ (fun j8 ls H locs hi8 hi08 hI8 ih8 => ?_)
        obtain ⟨hl, hP, hD, hS⟩ := hI8
        have hP : va_P D vwCl ((wX cI cZ q tc nc ac ch U Z B L F ++ wS cI cR r nr ar tc nc ac ch U Z B L F) ++ [(a13, .inl (cI, tc, .inl (mrg (fun t => nI (ct (fun k => zz U Z nc k && ho (nI k) (nI t)) (i9 + 1))) (fun t => nI (ct (fun k => zz U Z nc k && ho (nI k) (nI t)) i9)) j8)))]) H := hP
        have hD : va_D (lA s) ((wX cI cZ q tc nc ac ch U Z B L F ++ wS cI cR r nr ar tc nc ac ch U Z B L F) ++ [(a13, .inl (cI, tc, .inl (mrg (fun t => nI (ct (fun k => zz U Z nc k && ho (nI k) (nI t)) (i9 + 1))) (fun t => nI (ct (fun k => zz U Z nc k && ho (nI k) (nI t)) i9)) j8)))]) := hD
        have hPX : va_P D vwCl (wX cI cZ q tc nc ac ch U Z B L F) H := P_l (P_l hP)
        have hPS : va_P D vwCl (wS cI cR r nr ar tc nc ac ch U Z B L F) H := P_r (P_l hP)
        have hPT : va_P D vwCl [(a13, .inl (cI, tc, .inl (mrg (fun t => nI (ct (fun k => zz U Z nc k && ho (nI k) (nI t)) (i9 + 1))) (fun t => nI (ct (fun k => zz U Z nc k && ho (nI k) (nI t)) i9)) j8)))] H := P_r hP
        refine lv_iload hx hb dL_law_275 (lv_at hl 0 rfl) ?_
        refine lv_iload hx hb dL_law_277 (lv_at hl 8 rfl) ?_
        refine lv_icmp_ge (tgt := 303) hx hb dL_law_279 (by decide) (fun c279 => ?_) (fun c279 => ?_)
        · have hie8 : j8 = tc := gd_ge_t (by omega) hi8 c279
          rw [hie8] at hl hP hD
          clear ih8 hPX hPS hPT
          have hT : va_P D vwCl [(a13, .inl (cI, tc, .inl (fun t => nI (ct (fun k => zz U Z nc k && ho (nI k) (nI t)) (i9 + 1)))))] H := va_P_arr (P_r hP) 0 rfl (g := (fun t => nI (ct (fun k => zz U Z nc k && ho (nI k) (nI t)) (i9 + 1)))) (fun j hj => mrg_lt hj)
          have hP := (P_l hP).app hT
          have hD : va_D (lA s) ((wX cI cZ q tc nc ac ch U Z B L F ++ wS cI cR r nr ar tc nc ac ch U Z B L F) ++ [(a13, .inl (cI, tc, .inl (fun t => nI (ct (fun k => zz U Z nc k && ho (nI k) (nI t)) (i9 + 1)))))]) := va_D_re hD (by simp only [List.map_append, List.map_cons, List.map_nil])
          clear hT
          have hP : va_P D vwCl ((wX cI cZ q tc nc ac ch U Z B L F ++ wS cI cR r nr ar tc nc ac ch U Z B L F) ++ [(a13, .inl (cI, tc, .inl (fun t => nI (ct (fun k => zz U Z nc k && ho (nI k) (nI t)) (i9 + 1)))))]) H := hP
          have hPX : va_P D vwCl (wX cI cZ q tc nc ac ch U Z B L F) H := P_l (P_l hP)
          have hPS : va_P D vwCl (wS cI cR r nr ar tc nc ac ch U Z B L F) H := P_r (P_l hP)
          have hPT : va_P D vwCl [(a13, .inl (cI, tc, .inl (fun t => nI (ct (fun k => zz U Z nc k && ho (nI k) (nI t)) (i9 + 1)))))] H := P_r hP
          refine lv_iload hx hb dL_law_303 (lv_at hl 1 rfl) ?_
          refine lv_iload hx hb dL_law_305 (lv_at hl 4 rfl) ?_
          refine lv_iand hx hb dL_law_307 ?_
          refine lv_if_ne (tgt := 364) hx hb dL_law_308 (by decide) (fun c308 => absurd (D_cl hnc htc hz) c308) (fun c308 => ?_)
          refine lv_iload hx hb dL_law_311 (lv_at hl 1 rfl) ?_
          refine lv_iload hx hb dL_law_313 (lv_at hl 3 rfl) ?_
          refine lv_iand hx hb dL_law_315 ?_
          refine lv_iload hx hb dL_law_316 (lv_at hl 3 rfl) ?_
          refine lv_icmp_ne (tgt := 364) hx hb dL_law_318 (by decide) (fun c318 => absurd (D_pv hnc htc hz) c318) (fun c318 => ?_)
          refine lv_iload hx hb dL_law_321 (lv_at hl 1 rfl) ?_
          refine lv_iload hx hb dL_law_323 (lv_at hl 6 rfl) ?_
          refine lv_iand hx hb dL_law_325 ?_
          refine lv_iload hx hb dL_law_326 (lv_at hl 6 rfl) ?_
          refine lv_icmp_ne (tgt := 364) hx hb dL_law_328 (by decide) (fun c328 => absurd (D_su hnc htc hlt9 hz) c328) (fun c328 => ?_)
          refine lv_iload hx hb dL_law_331 (lv_at hl 1 rfl) ?_
          refine pcS_i (As := [.int (nI i9)]) (rest := []) ⟨hx, hb, hml, hown, hts⟩ (g_bitCount l (nI i9)) (va_cwS 1 hts gL_law_J6_bitCount_0f7a4 rfl rfl rfl hdJ6_bitCount_0f7a4 ⟨Nat.le_of_ble_eq_true rfl, Nat.le_of_ble_eq_true rfl⟩) rfl hl.1 (Nat.le_of_ble_eq_true rfl) rfl dL_law_333 ⟨by show cells + 1 ≤ 600172; omega, by show slots + tc ≤ 7300668; omega⟩ ?_
          refine lv_iload hx hb dL_law_336 (lv_at hl 7 rfl) ?_
          refine pcS_i (As := [.int ((spx (fun k => zz U Z nc k) (pw tc)).1)]) (rest := [.int (bc (nI i9))]) ⟨hx, hb, hml, hown, hts⟩ (g_bitCount l ((spx (fun k => zz U Z nc k) (pw tc)).1)) (va_cwS 1 hts gL_law_J6_bitCount_0f7a4 rfl rfl rfl hdJ6_bitCount_0f7a4 ⟨Nat.le_of_ble_eq_true rfl, Nat.le_of_ble_eq_true rfl⟩) rfl hl.1 (Nat.le_of_ble_eq_true rfl) rfl dL_law_338 ⟨by show cells + 1 ≤ 600172; omega, by show slots + tc ≤ 7300668; omega⟩ ?_
          refine lv_icmp_lt (tgt := 364) hx hb dL_law_341 (by decide) (fun c341 => absurd c341 (D_sz htc hlt9 hz)) (fun c341 => ?_)
          refine lv_iload hx hb dL_law_344 (lv_at hl 1 rfl) ?_
          refine pcS_i (As := [.int (nI i9)]) (rest := []) ⟨hx, hb, hml, hown, hts⟩ (g_bitCount l (nI i9)) (va_cwS 1 hts gL_law_J6_bitCount_0f7a4 rfl rfl rfl hdJ6_bitCount_0f7a4 ⟨Nat.le_of_ble_eq_true rfl, Nat.le_of_ble_eq_true rfl⟩) rfl hl.1 (Nat.le_of_ble_eq_true rfl) rfl dL_law_346 ⟨by show cells + 1 ≤ 600172; omega, by show slots + tc ≤ 7300668; omega⟩ ?_
          refine lv_iload hx hb dL_law_349 (lv_at hl 7 rfl) ?_
          refine pcS_i (As := [.int ((spx (fun k => zz U Z nc k) (pw tc)).1)]) (rest := [.int (bc (nI i9))]) ⟨hx, hb, hml, hown, hts⟩ (g_bitCount l ((spx (fun k => zz U Z nc k) (pw tc)).1)) (va_cwS 1 hts gL_law_J6_bitCount_0f7a4 rfl rfl rfl hdJ6_bitCount_0f7a4 ⟨Nat.le_of_ble_eq_true rfl, Nat.le_of_ble_eq_true rfl⟩) rfl hl.1 (Nat.le_of_ble_eq_true rfl) rfl dL_law_351 ⟨by show cells + 1 ≤ 600172; omega, by show slots + tc ≤ 7300668; omega⟩ ?_
          refine lv_icmp_ne (tgt := 366) hx hb dL_law_354 (by decide) (fun c354 => ?_) (fun c354 => ?_)
          · skip
            refine lv_iinc (v := nI (i9 + 1)) (lv' := [(14, .int (nI (i9 + 1))), (15, .int (nI tc)), (13, .ref a13), (12, .int (orf (fun t => anyb (fun j => Z j && ho (U j) (nI t) && decide (U j &&& ((cld U Z nc ||| ((1 : Int32) <<< (nI t &&& 31))) ^^^ (-1)) = 0)) nc) (fun t => (1 : Int32) <<< (nI t &&& 31)) tc)), (11, .int (orf (fun t => ho (cld U Z nc) (nI t)) (fun t => (1 : Int32) <<< (nI t &&& 31)) tc)), (10, .int (nI (ct (fun k => zz U Z nc k) i9 + 1))), (9, .int (suX U Z nc tc)), (8, .int ((spx (fun k => zz U Z nc k) (pw tc)).1)), (7, .int (nI tc)), (5, .long (dgX tc nc ac ch U Z B L F)), (4, .int x), (3, .int (nI i)), (2, .ref (r 0)), (1, .ref (q 0)), (0, .ref b)]) hx hb dL_law_366 hl (k := 1) rfl (nI_1 _) (by decide) rfl (fun ls hl => ?_)
            refine lv_goto (tgt := 248) hx hb dL_law_369 (by decide) ?_
            have e10 : (nI (ct (fun k => zz U Z nc k) i9 + 1)) = nI (ct (fun k => zz U Z nc k) (i9 + 1)) := ct_t1 hz
            have hl := lv_sub (l' := [(14, .int (nI (i9 + 1))), (13, .ref a13), (12, .int (orf (fun t => anyb (fun j => Z j && ho (U j) (nI t) && decide (U j &&& ((cld U Z nc ||| ((1 : Int32) <<< (nI t &&& 31))) ^^^ (-1)) = 0)) nc) (fun t => (1 : Int32) <<< (nI t &&& 31)) tc)), (11, .int (orf (fun t => ho (cld U Z nc) (nI t)) (fun t => (1 : Int32) <<< (nI t &&& 31)) tc)), (10, .int (nI (ct (fun k => zz U Z nc k) i9 + 1))), (9, .int (suX U Z nc tc)), (8, .int ((spx (fun k => zz U Z nc k) (pw tc)).1)), (7, .int (nI tc)), (5, .long (dgX tc nc ac ch U Z B L F)), (4, .int x), (3, .int (nI i)), (2, .ref (r 0)), (1, .ref (q 0)), (0, .ref b)]) hl [0, 2, 3, 4, 5, 6, 7, 8, 9, 10, 11, 12, 13, 14] rfl
            rw [e10] at hl
            exact ih _ _ _ hlt9 ⟨hl, hP, hD, hS⟩
          · skip
            refine lv_iload hx hb dL_law_357 (lv_at hl 1 rfl) ?_
            refine lv_iload hx hb dL_law_359 (lv_at hl 7 rfl) ?_
            refine lv_icmp_ge (tgt := 366) hx hb dL_law_361 (by decide) (fun c361 => ?_) (fun c361 => absurd (D_sm htc hlt9 hz c354) c361)
            refine lv_iinc (v := nI (i9 + 1)) (lv' := [(14, .int (nI (i9 + 1))), (15, .int (nI tc)), (13, .ref a13), (12, .int (orf (fun t => anyb (fun j => Z j && ho (U j) (nI t) && decide (U j &&& ((cld U Z nc ||| ((1 : Int32) <<< (nI t &&& 31))) ^^^ (-1)) = 0)) nc) (fun t => (1 : Int32) <<< (nI t &&& 31)) tc)), (11, .int (orf (fun t => ho (cld U Z nc) (nI t)) (fun t => (1 : Int32) <<< (nI t &&& 31)) tc)), (10, .int (nI (ct (fun k => zz U Z nc k) i9 + 1))), (9, .int (suX U Z nc tc)), (8, .int ((spx (fun k => zz U Z nc k) (pw tc)).1)), (7, .int (nI tc)), (5, .long (dgX tc nc ac ch U Z B L F)), (4, .int x), (3, .int (nI i)), (2, .ref (r 0)), (1, .ref (q 0)), (0, .ref b)]) hx hb dL_law_366 hl (k := 1) rfl (nI_1 _) (by decide) rfl (fun ls hl => ?_)
            refine lv_goto (tgt := 248) hx hb dL_law_369 (by decide) ?_
            have e10 : (nI (ct (fun k => zz U Z nc k) i9 + 1)) = nI (ct (fun k => zz U Z nc k) (i9 + 1)) := ct_t1 hz
            have hl := lv_sub (l' := [(14, .int (nI (i9 + 1))), (13, .ref a13), (12, .int (orf (fun t => anyb (fun j => Z j && ho (U j) (nI t) && decide (U j &&& ((cld U Z nc ||| ((1 : Int32) <<< (nI t &&& 31))) ^^^ (-1)) = 0)) nc) (fun t => (1 : Int32) <<< (nI t &&& 31)) tc)), (11, .int (orf (fun t => ho (cld U Z nc) (nI t)) (fun t => (1 : Int32) <<< (nI t &&& 31)) tc)), (10, .int (nI (ct (fun k => zz U Z nc k) i9 + 1))), (9, .int (suX U Z nc tc)), (8, .int ((spx (fun k => zz U Z nc k) (pw tc)).1)), (7, .int (nI tc)), (5, .long (dgX tc nc ac ch U Z B L F)), (4, .int x), (3, .int (nI i)), (2, .ref (r 0)), (1, .ref (q 0)), (0, .ref b)]) hl [0, 2, 3, 4, 5, 6, 7, 8, 9, 10, 11, 12, 13, 14] rfl
            rw [e10] at hl
            exact ih _ _ _ hlt9 ⟨hl, hP, hD, hS⟩
        · have hlt8 : j8 < tc := gd_ge_f hi8 c279
          refine lv_aload hx hb dL_law_282 (lv_at hl 2 rfl) ?_
          refine lv_iload hx hb dL_law_284 (lv_at hl 0 rfl) ?_
          refine lv_dup2_11 hx hb dL_law_286 rfl rfl ?_
          refine ia_ld hx hb hK hPT 0 0 rfl rfl (j := j8) hlt8 (by omega) dL_law_287 ?_
          refine lv_cst (y := nI (ct (fun k => zz U Z nc k && ho (nI k) (nI j8)) i9)) (mrg_at _ _ _) ?_
          refine lv_iload hx hb dL_law_288 (lv_at hl 1 rfl) ?_
          refine lv_iload hx hb dL_law_290 (lv_at hl 0 rfl) ?_
          refine lv_ishr hx hb dL_law_292 ?_
          refine lv_iconst (v := 1) hx hb dL_law_293 (by decide) ?_
          refine lv_iand hx hb dL_law_294 ?_
          refine lv_cst (y := bI (ho (nI i9) (nI j8))) (sh_ho (by omega) _) ?_
          refine lv_iadd hx hb dL_law_295 ?_
          refine ir_st hx hb hK hP hD hS 0 0 rfl rfl (j := j8) hlt8 (by omega) dL_law_296 (fun H locs hP hD hS => ?_)
          have hP : va_P D vwCl ((wX cI cZ q tc nc ac ch U Z B L F ++ wS cI cR r nr ar tc nc ac ch U Z B L F) ++ [(a13, .inl (cI, tc, .inl (upd (mrg (fun t => nI (ct (fun k => zz U Z nc k && ho (nI k) (nI t)) (i9 + 1))) (fun t => nI (ct (fun k => zz U Z nc k && ho (nI k) (nI t)) i9)) j8) j8 (nI (ct (fun k => zz U Z nc k && ho (nI k) (nI j8)) i9) + bI (ho (nI i9) (nI j8))))))]) H := hP
          have hD : va_D (lA s) ((wX cI cZ q tc nc ac ch U Z B L F ++ wS cI cR r nr ar tc nc ac ch U Z B L F) ++ [(a13, .inl (cI, tc, .inl (upd (mrg (fun t => nI (ct (fun k => zz U Z nc k && ho (nI k) (nI t)) (i9 + 1))) (fun t => nI (ct (fun k => zz U Z nc k && ho (nI k) (nI t)) i9)) j8) j8 (nI (ct (fun k => zz U Z nc k && ho (nI k) (nI j8)) i9) + bI (ho (nI i9) (nI j8))))))]) := hD
          have hPX : va_P D vwCl (wX cI cZ q tc nc ac ch U Z B L F) H := P_l (P_l hP)
          have hPS : va_P D vwCl (wS cI cR r nr ar tc nc ac ch U Z B L F) H := P_r (P_l hP)
          have hPT : va_P D vwCl [(a13, .inl (cI, tc, .inl (upd (mrg (fun t => nI (ct (fun k => zz U Z nc k && ho (nI k) (nI t)) (i9 + 1))) (fun t => nI (ct (fun k => zz U Z nc k && ho (nI k) (nI t)) i9)) j8) j8 (nI (ct (fun k => zz U Z nc k && ho (nI k) (nI j8)) i9) + bI (ho (nI i9) (nI j8))))))] H := P_r hP
          rw [mrg_s (fun t => nI (ct (fun k => zz U Z nc k && ho (nI k) (nI t)) (i9 + 1))) (fun t => nI (ct (fun k => zz U Z nc k && ho (nI k) (nI t)) i9)) j8 (fw_s hz)] at hP hD
          have hP : va_P D vwCl ((wX cI cZ q tc nc ac ch U Z B L F ++ wS cI cR r nr ar tc nc ac ch U Z B L F) ++ [(a13, .inl (cI, tc, .inl (mrg (fun t => nI (ct (fun k => zz U Z nc k && ho (nI k) (nI t)) (i9 + 1))) (fun t => nI (ct (fun k => zz U Z nc k && ho (nI k) (nI t)) i9)) (j8 + 1))))]) H := hP
          have hD : va_D (lA s) ((wX cI cZ q tc nc ac ch U Z B L F ++ wS cI cR r nr ar tc nc ac ch U Z B L F) ++ [(a13, .inl (cI, tc, .inl (mrg (fun t => nI (ct (fun k => zz U Z nc k && ho (nI k) (nI t)) (i9 + 1))) (fun t => nI (ct (fun k => zz U Z nc k && ho (nI k) (nI t)) i9)) (j8 + 1))))]) := hD
          have hPX : va_P D vwCl (wX cI cZ q tc nc ac ch U Z B L F) H := P_l (P_l hP)
          have hPS : va_P D vwCl (wS cI cR r nr ar tc nc ac ch U Z B L F) H := P_r (P_l hP)
          have hPT : va_P D vwCl [(a13, .inl (cI, tc, .inl (mrg (fun t => nI (ct (fun k => zz U Z nc k && ho (nI k) (nI t)) (i9 + 1))) (fun t => nI (ct (fun k => zz U Z nc k && ho (nI k) (nI t)) i9)) (j8 + 1))))] H := P_r hP
          refine lv_iinc (v := nI (j8 + 1)) (lv' := [(15, .int (nI (j8 + 1))), (14, .int (nI i9)), (13, .ref a13), (12, .int (orf (fun t => anyb (fun j => Z j && ho (U j) (nI t) && decide (U j &&& ((cld U Z nc ||| ((1 : Int32) <<< (nI t &&& 31))) ^^^ (-1)) = 0)) nc) (fun t => (1 : Int32) <<< (nI t &&& 31)) tc)), (11, .int (orf (fun t => ho (cld U Z nc) (nI t)) (fun t => (1 : Int32) <<< (nI t &&& 31)) tc)), (10, .int (nI (ct (fun k => zz U Z nc k) i9 + 1))), (9, .int (suX U Z nc tc)), (8, .int ((spx (fun k => zz U Z nc k) (pw tc)).1)), (7, .int (nI tc)), (5, .long (dgX tc nc ac ch U Z B L F)), (4, .int x), (3, .int (nI i)), (2, .ref (r 0)), (1, .ref (q 0)), (0, .ref b)]) hx hb dL_law_297 hl (k := 0) rfl (nI_1 _) (by decide) rfl (fun ls hl => ?_)
          refine lv_goto (tgt := 275) hx hb dL_law_300 (by decide) ?_
          have hl := lv_sub (l' := [(15, .int (nI (j8 + 1))), (14, .int (nI i9)), (13, .ref a13), (12, .int (orf (fun t => anyb (fun j => Z j && ho (U j) (nI t) && decide (U j &&& ((cld U Z nc ||| ((1 : Int32) <<< (nI t &&& 31))) ^^^ (-1)) = 0)) nc) (fun t => (1 : Int32) <<< (nI t &&& 31)) tc)), (11, .int (orf (fun t => ho (cld U Z nc) (nI t)) (fun t => (1 : Int32) <<< (nI t &&& 31)) tc)), (10, .int (nI (ct (fun k => zz U Z nc k) i9 + 1))), (9, .int (suX U Z nc tc)), (8, .int ((spx (fun k => zz U Z nc k) (pw tc)).1)), (7, .int (nI tc)), (5, .long (dgX tc nc ac ch U Z B L F)), (4, .int x), (3, .int (nI i)), (2, .ref (r 0)), (1, .ref (q 0)), (0, .ref b)]) hl [0, 1, 2, 3, 4, 5, 6, 7, 8, 9, 10, 11, 12, 13, 14] rfl
          exact ih8 _ _ _ hlt8 ⟨hl, hP, hD, hS⟩
      · skip
        refine lv_goto (tgt := 366) hx hb dL_law_266 (by decide) ?_
        refine lv_iinc (v := nI (i9 + 1)) (lv' := [(14, .int (nI (i9 + 1))), (13, .ref a13), (12, .int (orf (fun t => anyb (fun j => Z j && ho (U j) (nI t) && decide (U j &&& ((cld U Z nc ||| ((1 : Int32) <<< (nI t &&& 31))) ^^^ (-1)) = 0)) nc) (fun t => (1 : Int32) <<< (nI t &&& 31)) tc)), (11, .int (orf (fun t => ho (cld U Z nc) (nI t)) (fun t => (1 : Int32) <<< (nI t &&& 31)) tc)), (10, .int (nI (ct (fun k => zz U Z nc k) i9))), (9, .int (suX U Z nc tc)), (8, .int ((spx (fun k => zz U Z nc k) (pw tc)).1)), (7, .int (nI tc)), (5, .long (dgX tc nc ac ch U Z B L F)), (4, .int x), (3, .int (nI i)), (2, .ref (r 0)), (1, .ref (q 0)), (0, .ref b)]) hx hb dL_law_366 hl (k := 0) rfl (nI_1 _) (by decide) rfl (fun ls hl => ?_)
        refine lv_goto (tgt := 248) hx hb dL_law_369 (by decide) ?_
        have e10 : nI (ct (fun k => zz U Z nc k) i9) = nI (ct (fun k => zz U Z nc k) (i9 + 1)) := ct_f hz
        rw [fw_f hz] at hP hD
        have hl := lv_sub (l' := [(14, .int (nI (i9 + 1))), (13, .ref a13), (12, .int (orf (fun t => anyb (fun j => Z j && ho (U j) (nI t) && decide (U j &&& ((cld U Z nc ||| ((1 : Int32) <<< (nI t &&& 31))) ^^^ (-1)) = 0)) nc) (fun t => (1 : Int32) <<< (nI t &&& 31)) tc)), (11, .int (orf (fun t => ho (cld U Z nc) (nI t)) (fun t => (1 : Int32) <<< (nI t &&& 31)) tc)), (10, .int (nI (ct (fun k => zz U Z nc k) i9))), (9, .int (suX U Z nc tc)), (8, .int ((spx (fun k => zz U Z nc k) (pw tc)).1)), (7, .int (nI tc)), (5, .long (dgX tc nc ac ch U Z B L F)), (4, .int x), (3, .int (nI i)), (2, .ref (r 0)), (1, .ref (q 0)), (0, .ref b)]) hl [0, 1, 2, 3, 4, 5, 6, 7, 8, 9, 10, 11, 12, 13] rfl
        rw [e10] at hl
        exact ih _ _ _ hlt9 ⟨hl, hP, hD, hS⟩
  · skip
    have hlt9 : i9 < tc := gd_ge_f hi9 c128
    refine lv_iload hx hb dL_law_131 (lv_at hl 3 rfl) ?_
    refine lv_aload_n hx hb dL_law_133 rfl (lv_at hl 12 rfl) ?_
    refine lv_iload hx hb dL_law_134 (lv_at hl 0 rfl) ?_
    refine pcV_i (As := [.int (nI i9)]) (rest := [.int (orf (fun t => ho (cld U Z nc) (nI t)) (fun t => (1 : Int32) <<< (nI t &&& 31)) i9)]) ⟨hx, hb, hml, hown, hts⟩ (g_X_isCleared l hPX htc hnc hac (t := i9) hlt9) (cwV 1 hts gL_law_X0_isCleared rfl rfl rfl hdX0_isCleared ⟨Nat.le_of_ble_eq_true rfl, Nat.le_of_ble_eq_true rfl⟩) (va_recv hKX hPX (ci := 0) (q0 := 0) rfl rfl) hKX rfl hl.1 (Nat.le_of_ble_eq_true rfl) rfl dL_law_136 ⟨by show cells + 1 ≤ 600172; omega, by show slots + tc ≤ 7300668; omega⟩ ?_
    refine lv_fork (fun _ : Unit => F0 m 151 ls [.int (orf (fun t => ho (cld U Z nc) (nI t)) (fun t => (1 : Int32) <<< (nI t &&& 31)) (i9 + 1))]) (fun u9 => ?_) (fun K => ?_)
    · skip
      refine lv_istore (lv' := [(11, .int (orf (fun t => ho (cld U Z nc) (nI t)) (fun t => (1 : Int32) <<< (nI t &&& 31)) (i9 + 1))), (14, .int (nI i9)), (13, .ref a13), (12, .int (orf (fun t => anyb (fun j => Z j && ho (U j) (nI t) && decide (U j &&& ((cld U Z nc ||| ((1 : Int32) <<< (nI t &&& 31))) ^^^ (-1)) = 0)) nc) (fun t => (1 : Int32) <<< (nI t &&& 31)) i9)), (10, .int 0), (9, .int (suX U Z nc tc)), (8, .int ((spx (fun k => zz U Z nc k) (pw tc)).1)), (7, .int (nI tc)), (5, .long (dgX tc nc ac ch U Z B L F)), (4, .int x), (3, .int (nI i)), (2, .ref (r 0)), (1, .ref (q 0)), (0, .ref b)]) hx hb dL_law_151 hl (by decide) rfl (fun ls hl => ?_)
      refine lv_iload hx hb dL_law_153 (lv_at hl 3 rfl) ?_
      refine lv_aload_n hx hb dL_law_155 rfl (lv_at hl 12 rfl) ?_
      refine lv_iload hx hb dL_law_156 (lv_at hl 1 rfl) ?_
      refine pcV_i (As := [.int (nI i9)]) (rest := [.int (orf (fun t => anyb (fun j => Z j && ho (U j) (nI t) && decide (U j &&& ((cld U Z nc ||| ((1 : Int32) <<< (nI t &&& 31))) ^^^ (-1)) = 0)) nc) (fun t => (1 : Int32) <<< (nI t &&& 31)) i9)]) ⟨hx, hb, hml, hown, hts⟩ (g_X_isProved l hPX htc hnc hac (t := i9) hlt9) (cwV 1 hts gL_law_X0_isProved rfl rfl rfl hdX0_isProved ⟨Nat.le_of_ble_eq_true rfl, Nat.le_of_ble_eq_true rfl⟩) (va_recv hKX hPX (ci := 0) (q0 := 0) rfl rfl) hKX rfl hl.1 (Nat.le_of_ble_eq_true rfl) rfl dL_law_158 ⟨by show cells + 1 ≤ 600172; omega, by show slots + tc ≤ 7300668; omega⟩ ?_
      refine lv_fork (fun _ : Unit => F0 m 173 ls [.int (orf (fun t => anyb (fun j => Z j && ho (U j) (nI t) && decide (U j &&& ((cld U Z nc ||| ((1 : Int32) <<< (nI t &&& 31))) ^^^ (-1)) = 0)) nc) (fun t => (1 : Int32) <<< (nI t &&& 31)) (i9 + 1))]) (fun u9 => ?_) (fun K => ?_)
      · skip
        refine lv_istore (lv' := [(12, .int (orf (fun t => anyb (fun j => Z j && ho (U j) (nI t) && decide (U j &&& ((cld U Z nc ||| ((1 : Int32) <<< (nI t &&& 31))) ^^^ (-1)) = 0)) nc) (fun t => (1 : Int32) <<< (nI t &&& 31)) (i9 + 1))), (11, .int (orf (fun t => ho (cld U Z nc) (nI t)) (fun t => (1 : Int32) <<< (nI t &&& 31)) (i9 + 1))), (14, .int (nI i9)), (13, .ref a13), (10, .int 0), (9, .int (suX U Z nc tc)), (8, .int ((spx (fun k => zz U Z nc k) (pw tc)).1)), (7, .int (nI tc)), (5, .long (dgX tc nc ac ch U Z B L F)), (4, .int x), (3, .int (nI i)), (2, .ref (r 0)), (1, .ref (q 0)), (0, .ref b)]) hx hb dL_law_173 hl (by decide) rfl (fun ls hl => ?_)
        refine lv_aload_n hx hb dL_law_175 rfl (lv_at hl 12 rfl) ?_
        refine lv_iload hx hb dL_law_176 (lv_at hl 2 rfl) ?_
        refine pcV_i (As := [.int (nI i9)]) (rest := []) ⟨hx, hb, hml, hown, hts⟩ (g_X_smudgesWith l hPX htc hnc hac (t := i9) hlt9) (cwV 1 hts gL_law_X0_smudgesWith rfl rfl rfl hdX0_smudgesWith ⟨Nat.le_of_ble_eq_true rfl, Nat.le_of_ble_eq_true rfl⟩) (va_recv hKX hPX (ci := 0) (q0 := 0) rfl rfl) hKX rfl hl.1 (Nat.le_of_ble_eq_true rfl) rfl dL_law_178 ⟨by show cells + 1 ≤ 600172; omega, by show slots + tc ≤ 7300668; omega⟩ ?_
        refine lv_aload_n hx hb dL_law_181 rfl (lv_at hl 12 rfl) ?_
        refine lv_iload hx hb dL_law_182 (lv_at hl 2 rfl) ?_
        refine pcV_i (As := [.int (nI i9)]) (rest := [.int (nI (ct (fun j => Z j && ho (U j) (nI i9)) nc))]) ⟨hx, hb, hml, hown, hts⟩ (g_X_nightsWith l hPX htc hnc hac (t := i9) hlt9) (cwV 1 hts gL_law_X0_nightsWith rfl rfl rfl hdX0_nightsWith ⟨Nat.le_of_ble_eq_true rfl, Nat.le_of_ble_eq_true rfl⟩) (va_recv hKX hPX (ci := 0) (q0 := 0) rfl rfl) hKX rfl hl.1 (Nat.le_of_ble_eq_true rfl) rfl dL_law_184 ⟨by show cells + 1 ≤ 600172; omega, by show slots + tc ≤ 7300668; omega⟩ ?_
        refine lv_icmp_gt (tgt := 237) hx hb dL_law_187 (by decide) (fun c187 => absurd c187 (nI_nlt (sm_le _) (by have := ct_le (fun j => ho (U j) (nI i9)) nc; omega))) (fun c187 => ?_)
        refine lv_aload_n hx hb dL_law_190 rfl (lv_at hl 12 rfl) ?_
        refine lv_iload hx hb dL_law_191 (lv_at hl 2 rfl) ?_
        refine pcV_i (As := [.int (nI i9)]) (rest := []) ⟨hx, hb, hml, hown, hts⟩ (g_X_isCleared l hPX htc hnc hac (t := i9) hlt9) (cwV 1 hts gL_law_X0_isCleared rfl rfl rfl hdX0_isCleared ⟨Nat.le_of_ble_eq_true rfl, Nat.le_of_ble_eq_true rfl⟩) (va_recv hKX hPX (ci := 0) (q0 := 0) rfl rfl) hKX rfl hl.1 (Nat.le_of_ble_eq_true rfl) rfl dL_law_193 ⟨by show cells + 1 ≤ 600172; omega, by show slots + tc ≤ 7300668; omega⟩ ?_
        refine lv_aload_n hx hb dL_law_196 rfl (lv_at hl 12 rfl) ?_
        refine lv_iload hx hb dL_law_197 (lv_at hl 2 rfl) ?_
        refine pcV_i (As := [.int (nI i9)]) (rest := [.int (bI (ho (cld U Z nc) (nI i9)))]) ⟨hx, hb, hml, hown, hts⟩ (g_X_smudgesWith l hPX htc hnc hac (t := i9) hlt9) (cwV 1 hts gL_law_X0_smudgesWith rfl rfl rfl hdX0_smudgesWith ⟨Nat.le_of_ble_eq_true rfl, Nat.le_of_ble_eq_true rfl⟩) (va_recv hKX hPX (ci := 0) (q0 := 0) rfl rfl) hKX rfl hl.1 (Nat.le_of_ble_eq_true rfl) rfl dL_law_199 ⟨by show cells + 1 ≤ 600172; omega, by show slots + tc ≤ 7300668; omega⟩ ?_
        refine lv_aload_n hx hb dL_law_202 rfl (lv_at hl 12 rfl) ?_
        refine lv_iload hx hb dL_law_203 (lv_at hl 2 rfl) ?_
        refine pcV_i (As := [.int (nI i9)]) (rest := [.int (nI (ct (fun j => Z j && ho (U j) (nI i9)) nc)), .int (bI (ho (cld U Z nc) (nI i9)))]) ⟨hx, hb, hml, hown, hts⟩ (g_X_nightsWith l hPX htc hnc hac (t := i9) hlt9) (cwV 1 hts gL_law_X0_nightsWith rfl rfl rfl hdX0_nightsWith ⟨Nat.le_of_ble_eq_true rfl, Nat.le_of_ble_eq_true rfl⟩) (va_recv hKX hPX (ci := 0) (q0 := 0) rfl rfl) hKX rfl hl.1 (Nat.le_of_ble_eq_true rfl) rfl dL_law_205 ⟨by show cells + 1 ≤ 600172; omega, by show slots + tc ≤ 7300668; omega⟩ ?_
        refine lv_blt (t0 := 215) hx hb dL_law_208 dL_law_211 dL_law_212 dL_law_215 (by decide) (by decide) ?_
        refine lv_icmp_ne (tgt := 237) hx hb dL_law_216 (by decide) (fun c216 => absurd (cl_lt hnc (by omega)) c216) (fun c216 => ?_)
        refine lv_aload_n hx hb dL_law_219 rfl (lv_at hl 12 rfl) ?_
        refine lv_iload hx hb dL_law_220 (lv_at hl 2 rfl) ?_
        refine pcV_i (As := [.int (nI i9)]) (rest := []) ⟨hx, hb, hml, hown, hts⟩ (g_X_isProved l hPX htc hnc hac (t := i9) hlt9) (cwV 1 hts gL_law_X0_isProved rfl rfl rfl hdX0_isProved ⟨Nat.le_of_ble_eq_true rfl, Nat.le_of_ble_eq_true rfl⟩) (va_recv hKX hPX (ci := 0) (q0 := 0) rfl rfl) hKX rfl hl.1 (Nat.le_of_ble_eq_true rfl) rfl dL_law_222 ⟨by show cells + 1 ≤ 600172; omega, by show slots + tc ≤ 7300668; omega⟩ ?_
        refine lv_ifb_eq (tgt := 239) hx hb dL_law_225 (by decide) (fun c225 => ?_) (fun c225 => ?_)
        · skip
          refine lv_iinc (v := nI (i9 + 1)) (lv' := [(14, .int (nI (i9 + 1))), (12, .int (orf (fun t => anyb (fun j => Z j && ho (U j) (nI t) && decide (U j &&& ((cld U Z nc ||| ((1 : Int32) <<< (nI t &&& 31))) ^^^ (-1)) = 0)) nc) (fun t => (1 : Int32) <<< (nI t &&& 31)) (i9 + 1))), (11, .int (orf (fun t => ho (cld U Z nc) (nI t)) (fun t => (1 : Int32) <<< (nI t &&& 31)) (i9 + 1))), (13, .ref a13), (10, .int 0), (9, .int (suX U Z nc tc)), (8, .int ((spx (fun k => zz U Z nc k) (pw tc)).1)), (7, .int (nI tc)), (5, .long (dgX tc nc ac ch U Z B L F)), (4, .int x), (3, .int (nI i)), (2, .ref (r 0)), (1, .ref (q 0)), (0, .ref b)]) hx hb dL_law_239 hl (k := 2) rfl (nI_1 _) (by decide) rfl (fun ls hl => ?_)
          refine lv_goto (tgt := 124) hx hb dL_law_242 (by decide) ?_
          have hl := lv_sub (l' := [(14, .int (nI (i9 + 1))), (13, .ref a13), (12, .int (orf (fun t => anyb (fun j => Z j && ho (U j) (nI t) && decide (U j &&& ((cld U Z nc ||| ((1 : Int32) <<< (nI t &&& 31))) ^^^ (-1)) = 0)) nc) (fun t => (1 : Int32) <<< (nI t &&& 31)) (i9 + 1))), (11, .int (orf (fun t => ho (cld U Z nc) (nI t)) (fun t => (1 : Int32) <<< (nI t &&& 31)) (i9 + 1))), (10, .int 0), (9, .int (suX U Z nc tc)), (8, .int ((spx (fun k => zz U Z nc k) (pw tc)).1)), (7, .int (nI tc)), (5, .long (dgX tc nc ac ch U Z B L F)), (4, .int x), (3, .int (nI i)), (2, .ref (r 0)), (1, .ref (q 0)), (0, .ref b)]) hl [0, 3, 1, 2, 4, 5, 6, 7, 8, 9, 10, 11, 12, 13] rfl
          exact ih9 ls hlt9 trivial hl
        · skip
          refine lv_aload_n hx hb dL_law_228 rfl (lv_at hl 12 rfl) ?_
          refine lv_iload hx hb dL_law_229 (lv_at hl 2 rfl) ?_
          refine pcV_i (As := [.int (nI i9)]) (rest := []) ⟨hx, hb, hml, hown, hts⟩ (g_X_smudgesWith l hPX htc hnc hac (t := i9) hlt9) (cwV 1 hts gL_law_X0_smudgesWith rfl rfl rfl hdX0_smudgesWith ⟨Nat.le_of_ble_eq_true rfl, Nat.le_of_ble_eq_true rfl⟩) (va_recv hKX hPX (ci := 0) (q0 := 0) rfl rfl) hKX rfl hl.1 (Nat.le_of_ble_eq_true rfl) rfl dL_law_231 ⟨by show cells + 1 ≤ 600172; omega, by show slots + tc ≤ 7300668; omega⟩ ?_
          refine lv_if_ne (tgt := 239) hx hb dL_law_234 (by decide) (fun c234 => ?_) (fun c234 => absurd c234 (pv_sm hnc c225))
          refine lv_iinc (v := nI (i9 + 1)) (lv' := [(14, .int (nI (i9 + 1))), (12, .int (orf (fun t => anyb (fun j => Z j && ho (U j) (nI t) && decide (U j &&& ((cld U Z nc ||| ((1 : Int32) <<< (nI t &&& 31))) ^^^ (-1)) = 0)) nc) (fun t => (1 : Int32) <<< (nI t &&& 31)) (i9 + 1))), (11, .int (orf (fun t => ho (cld U Z nc) (nI t)) (fun t => (1 : Int32) <<< (nI t &&& 31)) (i9 + 1))), (13, .ref a13), (10, .int 0), (9, .int (suX U Z nc tc)), (8, .int ((spx (fun k => zz U Z nc k) (pw tc)).1)), (7, .int (nI tc)), (5, .long (dgX tc nc ac ch U Z B L F)), (4, .int x), (3, .int (nI i)), (2, .ref (r 0)), (1, .ref (q 0)), (0, .ref b)]) hx hb dL_law_239 hl (k := 2) rfl (nI_1 _) (by decide) rfl (fun ls hl => ?_)
          refine lv_goto (tgt := 124) hx hb dL_law_242 (by decide) ?_
          have hl := lv_sub (l' := [(14, .int (nI (i9 + 1))), (13, .ref a13), (12, .int (orf (fun t => anyb (fun j => Z j && ho (U j) (nI t) && decide (U j &&& ((cld U Z nc ||| ((1 : Int32) <<< (nI t &&& 31))) ^^^ (-1)) = 0)) nc) (fun t => (1 : Int32) <<< (nI t &&& 31)) (i9 + 1))), (11, .int (orf (fun t => ho (cld U Z nc) (nI t)) (fun t => (1 : Int32) <<< (nI t &&& 31)) (i9 + 1))), (10, .int 0), (9, .int (suX U Z nc tc)), (8, .int ((spx (fun k => zz U Z nc k) (pw tc)).1)), (7, .int (nI tc)), (5, .long (dgX tc nc ac ch U Z B L F)), (4, .int x), (3, .int (nI i)), (2, .ref (r 0)), (1, .ref (q 0)), (0, .ref b)]) hl [0, 3, 1, 2, 4, 5, 6, 7, 8, 9, 10, 11, 12, 13] rfl
          exact ih9 ls hlt9 trivial hl
      · refine lv_ifb_eq (tgt := 171) hx hb dL_law_161 (by decide) (fun c161 => ?_) (fun c161 => ?_)
        · skip
          refine lv_iconst (v := 0) hx hb dL_law_171 (by decide) ?_
          refine lv_ior hx hb dL_law_172 ?_
          refine lv_cst (y := orf (fun t => anyb (fun j => Z j && ho (U j) (nI t) && decide (U j &&& ((cld U Z nc ||| ((1 : Int32) <<< (nI t &&& 31))) ^^^ (-1)) = 0)) nc) (fun t => (1 : Int32) <<< (nI t &&& 31)) (i9 + 1)) (orf_f0 (p := (fun t => anyb (fun j => Z j && ho (U j) (nI t) && decide (U j &&& ((cld U Z nc ||| ((1 : Int32) <<< (nI t &&& 31))) ^^^ (-1)) = 0)) nc)) c161) ?_
          exact K ()
        · skip
          refine lv_iconst (v := 1) hx hb dL_law_164 (by decide) ?_
          refine lv_iload hx hb dL_law_165 (lv_at hl 1 rfl) ?_
          refine lv_ishl hx hb dL_law_167 ?_
          refine lv_goto (tgt := 172) hx hb dL_law_168 (by decide) ?_
          refine lv_ior hx hb dL_law_172 ?_
          refine lv_cst (y := orf (fun t => anyb (fun j => Z j && ho (U j) (nI t) && decide (U j &&& ((cld U Z nc ||| ((1 : Int32) <<< (nI t &&& 31))) ^^^ (-1)) = 0)) nc) (fun t => (1 : Int32) <<< (nI t &&& 31)) (i9 + 1)) (orf_t (p := (fun t => anyb (fun j => Z j && ho (U j) (nI t) && decide (U j &&& ((cld U Z nc ||| ((1 : Int32) <<< (nI t &&& 31))) ^^^ (-1)) = 0)) nc)) (f := fW) c161) ?_
          exact K ()
    · refine lv_ifb_eq (tgt := 149) hx hb dL_law_139 (by decide) (fun c139 => ?_) (fun c139 => ?_)
      · skip
        refine lv_iconst (v := 0) hx hb dL_law_149 (by decide) ?_
        refine lv_ior hx hb dL_law_150 ?_
        refine lv_cst (y := orf (fun t => ho (cld U Z nc) (nI t)) (fun t => (1 : Int32) <<< (nI t &&& 31)) (i9 + 1)) (orf_f0 (p := (fun t => ho (cld U Z nc) (nI t))) c139) ?_
        exact K ()
      · skip
        refine lv_iconst (v := 1) hx hb dL_law_142 (by decide) ?_
        refine lv_iload hx hb dL_law_143 (lv_at hl 0 rfl) ?_
        refine lv_ishl hx hb dL_law_145 ?_
        refine lv_goto (tgt := 150) hx hb dL_law_146 (by decide) ?_
        refine lv_ior hx hb dL_law_150 ?_
        refine lv_cst (y := orf (fun t => ho (cld U Z nc) (nI t)) (fun t => (1 : Int32) <<< (nI t &&& 31)) (i9 + 1)) (orf_t (p := (fun t => ho (cld U Z nc) (nI t))) (f := fW) c139) ?_
        exact K ()
