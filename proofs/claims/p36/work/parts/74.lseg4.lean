/-! the law: what astronomers blame, and how stubborn they are -/
set_option maxHeartbeats 8000000 in
set_option maxRecDepth 100000 in
theorem sg_4 (l : Launch) {p : Program} {e : Env} {s : State} {m : MethodId} {below : List Frame} {meth : Method} {c : Code} {b N : Nat} {xs : Nat → Int32} {D : va_G} {cI cZ cR : ClassId} {q : Nat → Nat} {Q : State → Prop} {H : Heap} {locs : List Loc} {ls : Array Slot} {cells slots cE sE i : Nat} {x : Int32} {r nr ar : Nat → Nat} {tc nc ac : Nat} {ch : Int32} {U : Nat → Int32} {Z : Nat → Bool} {B L F : Nat → Int32} (C : LC l p s m c b N xs D cI cZ cR) (hG : Gd tc nc ac U B L F) (hS : va_S (lA s) s.heap H locs) (hP : va_P D vwCl (wX cI cZ q tc nc ac ch U Z B L F ++ wS cI cR r nr ar tc nc ac ch U Z B L F) H) (hD : va_D (lA s) (wX cI cZ q tc nc ac ch U Z B L F ++ wS cI cR r nr ar tc nc ac ch U Z B L F)) (hl : lv_has ls 28 [(15, .int 0), (14, .int (nI ac)), (10, .int (nI (ct (fun k => zz U Z nc k) (pw tc)))), (7, .int (nI tc)), (5, .long (dgX tc nc ac ch U Z B L F)), (4, .int x), (3, .int (nI i)), (2, .ref (r 0)), (1, .ref (q 0)), (0, .ref b)]) (hcl : cells + 2100 ≤ 600172) (hsl : slots + 301000 ≤ 7300668) (hcE : cells + 500 ≤ cE) (hsE : slots + 69000 ≤ sE) (KN : ∀ (H : Heap) (locs : List Loc) (ls : Array Slot), XS D cI cZ cR q (r 0) (lA s) H → va_S (lA s) s.heap H locs → lv_has ls 28 [(3, .int (nI i)), (2, .ref (r 0)), (1, .ref (q 0)), (0, .ref b)] → W p l e room_1 s m #[Value.ref b] below meth c H locs cE sE Q (F0 m 1183 ls [])) : W p l e room_1 s m #[Value.ref b] below meth c H locs cells slots Q (F0 m 639 ls []) := by
  obtain ⟨hx, hb, hml, hown, hts, hX, hbl, hN, hKL, hov, hnst⟩ := id C
  obtain ⟨⟨htc1, htc⟩, hnc, hac, hU, hB, hL9, hF9⟩ := id hG
  have hpw := pw_in htc
  have hpw2 : 2 ≤ pw tc := pw_mono htc1
  have hK : va_K D vwCl (tyS cI cR) s := hKL.sub [0, 2] rfl
  have hKX : va_K D vwCl (tyA cI cZ) s := hKL.sub [0, 1] rfl
  have hA : ∀ z : Nat, s.heap.size ≤ z → lA s z := fun _ h => h
  have hPX : va_P D vwCl (wX cI cZ q tc nc ac ch U Z B L F) H := P_l hP
  have hPS : va_P D vwCl (wS cI cR r nr ar tc nc ac ch U Z B L F) H := P_r hP
  refine lv_iload hx hb dL_law_639 (lv_at hl 1 rfl) ?_
  refine va_newa (atype := .int) (ty := .int) (N' := ac) (a0 := (ac, .inl (fun _ => 0))) hx hb (hts (.arrayClass .int) (List.mem_of_getElem? (i := 3) rfl)) rfl hK hP hD hS hA (fun _ => rfl) (nI_pos (by omega)) (nI_clamp (by omega)) (by show ac * 4 ≤ 536870912; omega) (by show cells + 1 ≤ 600172; omega) (by show slots + ac ≤ 7300668; omega) dL_law_641 (fun a16 k_a16 H hK1 hP hD hS => ?_)
  have e_a16 : cI = k_a16 := ty_uniq hK1 (i := 0) (j := 2) rfl rfl
  subst e_a16
  clear hK1
  refine lv_astore (lv' := [(16, .ref a16), (15, .int 0), (14, .int (nI ac)), (10, .int (nI (ct (fun k => zz U Z nc k) (pw tc)))), (7, .int (nI tc)), (5, .long (dgX tc nc ac ch U Z B L F)), (4, .int x), (3, .int (nI i)), (2, .ref (r 0)), (1, .ref (q 0)), (0, .ref b)]) hx hb dL_law_643 hl (by decide) rfl (fun ls hl => ?_)
  refine lv_iload hx hb dL_law_645 (lv_at hl 2 rfl) ?_
  refine va_newa (atype := .int) (ty := .int) (N' := ac) (a0 := (ac, .inl (fun _ => 0))) hx hb (hts (.arrayClass .int) (List.mem_of_getElem? (i := 3) rfl)) rfl hK hP hD hS hA (fun _ => rfl) (nI_pos (by omega)) (nI_clamp (by omega)) (by show ac * 4 ≤ 536870912; omega) (by show cells + 1 + 1 ≤ 600172; omega) (by show slots + ac + ac ≤ 7300668; omega) dL_law_647 (fun a17 k_a17 H hK1 hP hD hS => ?_)
  have e_a17 : cI = k_a17 := ty_uniq hK1 (i := 0) (j := 2) rfl rfl
  subst e_a17
  clear hK1
  refine lv_astore (lv' := [(17, .ref a17), (16, .ref a16), (15, .int 0), (14, .int (nI ac)), (10, .int (nI (ct (fun k => zz U Z nc k) (pw tc)))), (7, .int (nI tc)), (5, .long (dgX tc nc ac ch U Z B L F)), (4, .int x), (3, .int (nI i)), (2, .ref (r 0)), (1, .ref (q 0)), (0, .ref b)]) hx hb dL_law_649 hl (by decide) rfl (fun ls hl => ?_)
  refine lv_iload hx hb dL_law_651 (lv_at hl 3 rfl) ?_
  refine va_newa (atype := .int) (ty := .int) (N' := ac) (a0 := (ac, .inl (fun _ => 0))) hx hb (hts (.arrayClass .int) (List.mem_of_getElem? (i := 3) rfl)) rfl hK hP hD hS hA (fun _ => rfl) (nI_pos (by omega)) (nI_clamp (by omega)) (by show ac * 4 ≤ 536870912; omega) (by show cells + 1 + 1 + 1 ≤ 600172; omega) (by show slots + ac + ac + ac ≤ 7300668; omega) dL_law_653 (fun a18 k_a18 H hK1 hP hD hS => ?_)
  have e_a18 : cI = k_a18 := ty_uniq hK1 (i := 0) (j := 2) rfl rfl
  subst e_a18
  clear hK1
  rw [List.append_assoc, List.append_assoc] at hP hD
  have hP : va_P D vwCl ((wX cI cZ q tc nc ac ch U Z B L F ++ wS cI cR r nr ar tc nc ac ch U Z B L F) ++ [(a16, .inl (cI, ac, .inl (fun _ => 0))), (a17, .inl (cI, ac, .inl (fun _ => 0))), (a18, .inl (cI, ac, .inl (fun _ => 0)))]) H := hP
  have hD : va_D (lA s) ((wX cI cZ q tc nc ac ch U Z B L F ++ wS cI cR r nr ar tc nc ac ch U Z B L F) ++ [(a16, .inl (cI, ac, .inl (fun _ => 0))), (a17, .inl (cI, ac, .inl (fun _ => 0))), (a18, .inl (cI, ac, .inl (fun _ => 0)))]) := hD
  have hPX : va_P D vwCl (wX cI cZ q tc nc ac ch U Z B L F) H := P_l (P_l hP)
  have hPS : va_P D vwCl (wS cI cR r nr ar tc nc ac ch U Z B L F) H := P_r (P_l hP)
  have hPT : va_P D vwCl [(a16, .inl (cI, ac, .inl (fun _ => 0))), (a17, .inl (cI, ac, .inl (fun _ => 0))), (a18, .inl (cI, ac, .inl (fun _ => 0)))] H := P_r hP
  refine lv_astore (lv' := [(18, .ref a18), (17, .ref a17), (16, .ref a16), (15, .int 0), (14, .int (nI ac)), (10, .int (nI (ct (fun k => zz U Z nc k) (pw tc)))), (7, .int (nI tc)), (5, .long (dgX tc nc ac ch U Z B L F)), (4, .int x), (3, .int (nI i)), (2, .ref (r 0)), (1, .ref (q 0)), (0, .ref b)]) hx hb dL_law_655 hl (by decide) rfl (fun ls hl => ?_)
  refine lv_iconst (v := 0) hx hb dL_law_657 (by decide) ?_
  refine lv_istore (lv' := [(19, .int 0), (18, .ref a18), (17, .ref a17), (16, .ref a16), (15, .int 0), (14, .int (nI ac)), (10, .int (nI (ct (fun k => zz U Z nc k) (pw tc)))), (7, .int (nI tc)), (5, .long (dgX tc nc ac ch U Z B L F)), (4, .int x), (3, .int (nI i)), (2, .ref (r 0)), (1, .ref (q 0)), (0, .ref b)]) hx hb dL_law_658 hl (by decide) rfl (fun ls hl => ?_)
  refine w_loopG (N := ac) (I := fun i9 ls H locs => lv_has ls 28 [(19, .int (nI i9)), (15, .int (bsum B i9)), (18, .ref a18), (17, .ref a17), (16, .ref a16), (14, .int (nI ac)), (10, .int (nI (ct (fun k => zz U Z nc k) (pw tc)))), (7, .int (nI tc)), (5, .long (dgX tc nc ac ch U Z B L F)), (4, .int x), (3, .int (nI i)), (2, .ref (r 0)), (1, .ref (q 0)), (0, .ref b)] ∧ va_P D vwCl ((wX cI cZ q tc nc ac ch U Z B L F ++ wS cI cR r nr ar tc nc ac ch U Z B L F) ++ [(a16, .inl (cI, ac, .inl (mrg B (fun _ => 0) i9))), (a17, .inl (cI, ac, .inl (mrg L (fun _ => 0) i9))), (a18, .inl (cI, ac, .inl (mrg (fun a => nI (un U Z (B a) nc)) (fun _ => 0) i9)))]) H ∧ va_D (lA s) ((wX cI cZ q tc nc ac ch U Z B L F ++ wS cI cR r nr ar tc nc ac ch U Z B L F) ++ [(a16, .inl (cI, ac, .inl (mrg B (fun _ => 0) i9))), (a17, .inl (cI, ac, .inl (mrg L (fun _ => 0) i9))), (a18, .inl (cI, ac, .inl (mrg (fun a => nI (un U Z (B a) nc)) (fun _ => 0) i9)))]) ∧ va_S (lA s) s.heap H locs) (cf := fun _ => cells + 1 + 1 + 1) (sf := fun _ => slots + ac + ac + ac) 0 (Nat.zero_le _) ⟨lv_sub hl [0, 4, 1, 2, 3, 5, 6, 7, 8, 9, 10, 11, 12, 13] rfl, hP, hD, hS⟩ (fun i9 ls H locs hi9 hi0 hI ih => ?_)
  obtain ⟨hl, hP, hD, hS⟩ := hI
  have hP : va_P D vwCl ((wX cI cZ q tc nc ac ch U Z B L F ++ wS cI cR r nr ar tc nc ac ch U Z B L F) ++ [(a16, .inl (cI, ac, .inl (mrg B (fun _ => 0) i9))), (a17, .inl (cI, ac, .inl (mrg L (fun _ => 0) i9))), (a18, .inl (cI, ac, .inl (mrg (fun a => nI (un U Z (B a) nc)) (fun _ => 0) i9)))]) H := hP
  have hD : va_D (lA s) ((wX cI cZ q tc nc ac ch U Z B L F ++ wS cI cR r nr ar tc nc ac ch U Z B L F) ++ [(a16, .inl (cI, ac, .inl (mrg B (fun _ => 0) i9))), (a17, .inl (cI, ac, .inl (mrg L (fun _ => 0) i9))), (a18, .inl (cI, ac, .inl (mrg (fun a => nI (un U Z (B a) nc)) (fun _ => 0) i9)))]) := hD
  have hPX : va_P D vwCl (wX cI cZ q tc nc ac ch U Z B L F) H := P_l (P_l hP)
  have hPS : va_P D vwCl (wS cI cR r nr ar tc nc ac ch U Z B L F) H := P_r (P_l hP)
  have hPT : va_P D vwCl [(a16, .inl (cI, ac, .inl (mrg B (fun _ => 0) i9))), (a17, .inl (cI, ac, .inl (mrg L (fun _ => 0) i9))), (a18, .inl (cI, ac, .inl (mrg (fun a => nI (un U Z (B a) nc)) (fun _ => 0) i9)))] H := P_r hP
  refine lv_iload hx hb dL_law_660 (lv_at hl 0 rfl) ?_
  refine lv_iload hx hb dL_law_662 (lv_at hl 5 rfl) ?_
  refine lv_icmp_ge (tgt := 783) hx hb dL_law_664 (by decide) (fun c664 => ?_) (fun c664 => ?_)
  · have hie : i9 = ac := gd_ge_t (by omega) hi9 c664
    rw [hie] at hl hP hD
    clear ih hPX hPS hPT
    have hT : va_P D vwCl [(a16, .inl (cI, ac, .inl B)), (a17, .inl (cI, ac, .inl L)), (a18, .inl (cI, ac, .inl (fun a => nI (un U Z (B a) nc))))] H := va_P_arr (va_P_arr (va_P_arr (P_r hP) 0 rfl (g := B) (fun j hj => mrg_lt hj)) 1 rfl (g := L) (fun j hj => mrg_lt hj)) 2 rfl (g := (fun a => nI (un U Z (B a) nc))) (fun j hj => mrg_lt hj)
    have hP := (P_l hP).app hT
    have hD : va_D (lA s) ((wX cI cZ q tc nc ac ch U Z B L F ++ wS cI cR r nr ar tc nc ac ch U Z B L F) ++ [(a16, .inl (cI, ac, .inl B)), (a17, .inl (cI, ac, .inl L)), (a18, .inl (cI, ac, .inl (fun a => nI (un U Z (B a) nc))))]) := va_D_re hD (by simp only [List.map_append, List.map_cons, List.map_nil])
    clear hT
    have hP : va_P D vwCl ((wX cI cZ q tc nc ac ch U Z B L F ++ wS cI cR r nr ar tc nc ac ch U Z B L F) ++ [(a16, .inl (cI, ac, .inl B)), (a17, .inl (cI, ac, .inl L)), (a18, .inl (cI, ac, .inl (fun a => nI (un U Z (B a) nc))))]) H := hP
    have hPX : va_P D vwCl (wX cI cZ q tc nc ac ch U Z B L F) H := P_l (P_l hP)
    have hPS : va_P D vwCl (wS cI cR r nr ar tc nc ac ch U Z B L F) H := P_r (P_l hP)
    have hPT : va_P D vwCl [(a16, .inl (cI, ac, .inl B)), (a17, .inl (cI, ac, .inl L)), (a18, .inl (cI, ac, .inl (fun a => nI (un U Z (B a) nc))))] H := P_r hP
    refine lv_aload_n hx hb dL_law_783 rfl (lv_at hl 12 rfl) ?_
    refine pcV_d (As := []) (rest := []) ⟨hx, hb, hml, hown, hts⟩ (g_X_meanBlame l hPX htc hnc hac) (cwV 0 hts gL_law_X0_meanBlame rfl rfl rfl hdX0_meanBlame ⟨Nat.le_of_ble_eq_true rfl, Nat.le_of_ble_eq_true rfl⟩) (va_recv hKX hPX (ci := 0) (q0 := 0) rfl rfl) hKX rfl hl.1 (Nat.le_of_ble_eq_true rfl) rfl dL_law_784 ⟨by show cells + 1 + 1 + 1 ≤ 600172; omega, by show slots + ac + ac + ac ≤ 7300668; omega⟩ ?_
    refine lv_iload hx hb dL_law_787 (lv_at hl 5 rfl) ?_
    refine lv_fork (fun _ : Unit => F0 m 809 ls []) (fun u9 => ?_) (fun K => ?_)
    · exact sg_5 l C hG hS hP hD (lv_sub hl [2, 3, 4, 5, 6, 7, 8, 9, 10, 11, 12, 13] rfl) (by omega) (by omega) (by omega) (by omega) KN
    · refine lv_if_ne (tgt := 796) hx hb dL_law_789 (by decide) (fun c789 => ?_) (fun c789 => ?_)
      · rw [if_neg c789]
        refine lv_iload hx hb dL_law_796 (lv_at hl 1 rfl) ?_
        refine lv_i2d hx hb dL_law_798 ?_
        refine lv_iload hx hb dL_law_799 (lv_at hl 5 rfl) ?_
        refine lv_i2d hx hb dL_law_801 ?_
        refine lv_ddiv hx hb dL_law_802 (mean_ok c789) ?_
        refine lv_dcmp hx hb dL_law_803 ?_
        refine lv_if_eq (tgt := 809) hx hb dL_law_804 (by decide) (fun c804 => K ()) (fun c804 => absurd (mean_self c789) c804)
      · rw [if_pos c789]
        refine lv_dconst0 hx hb dL_law_792 ?_
        refine lv_goto (tgt := 803) hx hb dL_law_793 (by decide) ?_
        refine lv_dcmp hx hb dL_law_803 ?_
        refine lv_if_eq (tgt := 809) hx hb dL_law_804 (by decide) (fun c804 => K ()) (fun c804 => absurd mean_0 c804)
  · have hlt9 : i9 < ac := gd_ge_f hi9 c664
    obtain ⟨v9, hv9, ev9⟩ := hL9 i9
    obtain ⟨k9, hk9, hB9⟩ := hB i9
    refine lv_aload hx hb dL_law_667 (lv_at hl 4 rfl) ?_
    refine lv_iload hx hb dL_law_669 (lv_at hl 0 rfl) ?_
    refine lv_aload_n hx hb dL_law_671 rfl (lv_at hl 12 rfl) ?_
    refine lv_iload hx hb dL_law_672 (lv_at hl 0 rfl) ?_
    refine pcV_i (As := [.int (nI i9)]) (rest := [.int (nI i9), .ref a16]) ⟨hx, hb, hml, hown, hts⟩ (g_X_blamedBy l hPX htc hnc hac (t := i9) hlt9) (cwV 1 hts gL_law_X0_blamedBy rfl rfl rfl hdX0_blamedBy ⟨Nat.le_of_ble_eq_true rfl, Nat.le_of_ble_eq_true rfl⟩) (va_recv hKX hPX (ci := 0) (q0 := 0) rfl rfl) hKX rfl hl.1 (Nat.le_of_ble_eq_true rfl) rfl dL_law_674 ⟨by show cells + 1 + 1 + 1 ≤ 600172; omega, by show slots + ac + ac + ac ≤ 7300668; omega⟩ ?_
    refine ir_st hx hb hK hP hD hS 0 0 rfl rfl (j := i9) hlt9 (by omega) dL_law_677 (fun H locs hP hD hS => ?_)
    have hP : va_P D vwCl ((wX cI cZ q tc nc ac ch U Z B L F ++ wS cI cR r nr ar tc nc ac ch U Z B L F) ++ [(a16, .inl (cI, ac, .inl (upd (mrg B (fun _ => 0) i9) i9 (B i9)))), (a17, .inl (cI, ac, .inl (mrg L (fun _ => 0) i9))), (a18, .inl (cI, ac, .inl (mrg (fun a => nI (un U Z (B a) nc)) (fun _ => 0) i9)))]) H := hP
    have hD : va_D (lA s) ((wX cI cZ q tc nc ac ch U Z B L F ++ wS cI cR r nr ar tc nc ac ch U Z B L F) ++ [(a16, .inl (cI, ac, .inl (upd (mrg B (fun _ => 0) i9) i9 (B i9)))), (a17, .inl (cI, ac, .inl (mrg L (fun _ => 0) i9))), (a18, .inl (cI, ac, .inl (mrg (fun a => nI (un U Z (B a) nc)) (fun _ => 0) i9)))]) := hD
    have hPX : va_P D vwCl (wX cI cZ q tc nc ac ch U Z B L F) H := P_l (P_l hP)
    have hPS : va_P D vwCl (wS cI cR r nr ar tc nc ac ch U Z B L F) H := P_r (P_l hP)
    have hPT : va_P D vwCl [(a16, .inl (cI, ac, .inl (upd (mrg B (fun _ => 0) i9) i9 (B i9)))), (a17, .inl (cI, ac, .inl (mrg L (fun _ => 0) i9))), (a18, .inl (cI, ac, .inl (mrg (fun a => nI (un U Z (B a) nc)) (fun _ => 0) i9)))] H := P_r hP
    rw [mrg_s B (fun _ => 0) i9 rfl] at hP hD
    have hP : va_P D vwCl ((wX cI cZ q tc nc ac ch U Z B L F ++ wS cI cR r nr ar tc nc ac ch U Z B L F) ++ [(a16, .inl (cI, ac, .inl (mrg B (fun _ => 0) (i9 + 1)))), (a17, .inl (cI, ac, .inl (mrg L (fun _ => 0) i9))), (a18, .inl (cI, ac, .inl (mrg (fun a => nI (un U Z (B a) nc)) (fun _ => 0) i9)))]) H := hP
    have hD : va_D (lA s) ((wX cI cZ q tc nc ac ch U Z B L F ++ wS cI cR r nr ar tc nc ac ch U Z B L F) ++ [(a16, .inl (cI, ac, .inl (mrg B (fun _ => 0) (i9 + 1)))), (a17, .inl (cI, ac, .inl (mrg L (fun _ => 0) i9))), (a18, .inl (cI, ac, .inl (mrg (fun a => nI (un U Z (B a) nc)) (fun _ => 0) i9)))]) := hD
    have hPX : va_P D vwCl (wX cI cZ q tc nc ac ch U Z B L F) H := P_l (P_l hP)
    have hPS : va_P D vwCl (wS cI cR r nr ar tc nc ac ch U Z B L F) H := P_r (P_l hP)
    have hPT : va_P D vwCl [(a16, .inl (cI, ac, .inl (mrg B (fun _ => 0) (i9 + 1)))), (a17, .inl (cI, ac, .inl (mrg L (fun _ => 0) i9))), (a18, .inl (cI, ac, .inl (mrg (fun a => nI (un U Z (B a) nc)) (fun _ => 0) i9)))] H := P_r hP
    refine lv_aload hx hb dL_law_678 (lv_at hl 3 rfl) ?_
    refine lv_iload hx hb dL_law_680 (lv_at hl 0 rfl) ?_
    refine lv_aload_n hx hb dL_law_682 rfl (lv_at hl 12 rfl) ?_
    refine lv_iload hx hb dL_law_683 (lv_at hl 0 rfl) ?_
    refine pcV_i (As := [.int (nI i9)]) (rest := [.int (nI i9), .ref a17]) ⟨hx, hb, hml, hown, hts⟩ (g_X_stubbornnessOf l hPX htc hnc hac (t := i9) hlt9) (cwV 1 hts gL_law_X0_stubbornnessOf rfl rfl rfl hdX0_stubbornnessOf ⟨Nat.le_of_ble_eq_true rfl, Nat.le_of_ble_eq_true rfl⟩) (va_recv hKX hPX (ci := 0) (q0 := 0) rfl rfl) hKX rfl hl.1 (Nat.le_of_ble_eq_true rfl) rfl dL_law_685 ⟨by show cells + 1 + 1 + 1 ≤ 600172; omega, by show slots + ac + ac + ac ≤ 7300668; omega⟩ ?_
    refine ir_st hx hb hK hP hD hS 1 0 rfl rfl (j := i9) hlt9 (by omega) dL_law_688 (fun H locs hP hD hS => ?_)
    have hP : va_P D vwCl ((wX cI cZ q tc nc ac ch U Z B L F ++ wS cI cR r nr ar tc nc ac ch U Z B L F) ++ [(a16, .inl (cI, ac, .inl (mrg B (fun _ => 0) (i9 + 1)))), (a17, .inl (cI, ac, .inl (upd (mrg L (fun _ => 0) i9) i9 (L i9)))), (a18, .inl (cI, ac, .inl (mrg (fun a => nI (un U Z (B a) nc)) (fun _ => 0) i9)))]) H := hP
    have hD : va_D (lA s) ((wX cI cZ q tc nc ac ch U Z B L F ++ wS cI cR r nr ar tc nc ac ch U Z B L F) ++ [(a16, .inl (cI, ac, .inl (mrg B (fun _ => 0) (i9 + 1)))), (a17, .inl (cI, ac, .inl (upd (mrg L (fun _ => 0) i9) i9 (L i9)))), (a18, .inl (cI, ac, .inl (mrg (fun a => nI (un U Z (B a) nc)) (fun _ => 0) i9)))]) := hD
    have hPX : va_P D vwCl (wX cI cZ q tc nc ac ch U Z B L F) H := P_l (P_l hP)
    have hPS : va_P D vwCl (wS cI cR r nr ar tc nc ac ch U Z B L F) H := P_r (P_l hP)
    have hPT : va_P D vwCl [(a16, .inl (cI, ac, .inl (mrg B (fun _ => 0) (i9 + 1)))), (a17, .inl (cI, ac, .inl (upd (mrg L (fun _ => 0) i9) i9 (L i9)))), (a18, .inl (cI, ac, .inl (mrg (fun a => nI (un U Z (B a) nc)) (fun _ => 0) i9)))] H := P_r hP
    rw [mrg_s L (fun _ => 0) i9 rfl] at hP hD
    have hP : va_P D vwCl ((wX cI cZ q tc nc ac ch U Z B L F ++ wS cI cR r nr ar tc nc ac ch U Z B L F) ++ [(a16, .inl (cI, ac, .inl (mrg B (fun _ => 0) (i9 + 1)))), (a17, .inl (cI, ac, .inl (mrg L (fun _ => 0) (i9 + 1)))), (a18, .inl (cI, ac, .inl (mrg (fun a => nI (un U Z (B a) nc)) (fun _ => 0) i9)))]) H := hP
    have hD : va_D (lA s) ((wX cI cZ q tc nc ac ch U Z B L F ++ wS cI cR r nr ar tc nc ac ch U Z B L F) ++ [(a16, .inl (cI, ac, .inl (mrg B (fun _ => 0) (i9 + 1)))), (a17, .inl (cI, ac, .inl (mrg L (fun _ => 0) (i9 + 1)))), (a18, .inl (cI, ac, .inl (mrg (fun a => nI (un U Z (B a) nc)) (fun _ => 0) i9)))]) := hD
    have hPX : va_P D vwCl (wX cI cZ q tc nc ac ch U Z B L F) H := P_l (P_l hP)
    have hPS : va_P D vwCl (wS cI cR r nr ar tc nc ac ch U Z B L F) H := P_r (P_l hP)
    have hPT : va_P D vwCl [(a16, .inl (cI, ac, .inl (mrg B (fun _ => 0) (i9 + 1)))), (a17, .inl (cI, ac, .inl (mrg L (fun _ => 0) (i9 + 1)))), (a18, .inl (cI, ac, .inl (mrg (fun a => nI (un U Z (B a) nc)) (fun _ => 0) i9)))] H := P_r hP
    refine lv_aload hx hb dL_law_689 (lv_at hl 2 rfl) ?_
    refine lv_iload hx hb dL_law_691 (lv_at hl 0 rfl) ?_
    refine lv_aload_n hx hb dL_law_693 rfl (lv_at hl 12 rfl) ?_
    refine lv_iload hx hb dL_law_694 (lv_at hl 0 rfl) ?_
    refine pcV_i (As := [.int (nI i9)]) (rest := [.int (nI i9), .ref a18]) ⟨hx, hb, hml, hown, hts⟩ (g_X_unexplainedBy l hPX htc hnc hac (t := i9) (k := k9) hlt9 (by omega) hB9) (cwV 1 hts gL_law_X0_unexplainedBy rfl rfl rfl hdX0_unexplainedBy ⟨Nat.le_of_ble_eq_true rfl, Nat.le_of_ble_eq_true rfl⟩) (va_recv hKX hPX (ci := 0) (q0 := 0) rfl rfl) hKX rfl hl.1 (Nat.le_of_ble_eq_true rfl) rfl dL_law_696 ⟨by show cells + 1 + 1 + 1 ≤ 600172; omega, by show slots + ac + ac + ac ≤ 7300668; omega⟩ ?_
    refine ir_st hx hb hK hP hD hS 2 0 rfl rfl (j := i9) hlt9 (by omega) dL_law_699 (fun H locs hP hD hS => ?_)
    have hP : va_P D vwCl ((wX cI cZ q tc nc ac ch U Z B L F ++ wS cI cR r nr ar tc nc ac ch U Z B L F) ++ [(a16, .inl (cI, ac, .inl (mrg B (fun _ => 0) (i9 + 1)))), (a17, .inl (cI, ac, .inl (mrg L (fun _ => 0) (i9 + 1)))), (a18, .inl (cI, ac, .inl (upd (mrg (fun a => nI (un U Z (B a) nc)) (fun _ => 0) i9) i9 (nI (un U Z (B i9) nc)))))]) H := hP
    have hD : va_D (lA s) ((wX cI cZ q tc nc ac ch U Z B L F ++ wS cI cR r nr ar tc nc ac ch U Z B L F) ++ [(a16, .inl (cI, ac, .inl (mrg B (fun _ => 0) (i9 + 1)))), (a17, .inl (cI, ac, .inl (mrg L (fun _ => 0) (i9 + 1)))), (a18, .inl (cI, ac, .inl (upd (mrg (fun a => nI (un U Z (B a) nc)) (fun _ => 0) i9) i9 (nI (un U Z (B i9) nc)))))]) := hD
    have hPX : va_P D vwCl (wX cI cZ q tc nc ac ch U Z B L F) H := P_l (P_l hP)
    have hPS : va_P D vwCl (wS cI cR r nr ar tc nc ac ch U Z B L F) H := P_r (P_l hP)
    have hPT : va_P D vwCl [(a16, .inl (cI, ac, .inl (mrg B (fun _ => 0) (i9 + 1)))), (a17, .inl (cI, ac, .inl (mrg L (fun _ => 0) (i9 + 1)))), (a18, .inl (cI, ac, .inl (upd (mrg (fun a => nI (un U Z (B a) nc)) (fun _ => 0) i9) i9 (nI (un U Z (B i9) nc)))))] H := P_r hP
    rw [mrg_s (fun a => nI (un U Z (B a) nc)) (fun _ => 0) i9 rfl] at hP hD
    have hP : va_P D vwCl ((wX cI cZ q tc nc ac ch U Z B L F ++ wS cI cR r nr ar tc nc ac ch U Z B L F) ++ [(a16, .inl (cI, ac, .inl (mrg B (fun _ => 0) (i9 + 1)))), (a17, .inl (cI, ac, .inl (mrg L (fun _ => 0) (i9 + 1)))), (a18, .inl (cI, ac, .inl (mrg (fun a => nI (un U Z (B a) nc)) (fun _ => 0) (i9 + 1))))]) H := hP
    have hD : va_D (lA s) ((wX cI cZ q tc nc ac ch U Z B L F ++ wS cI cR r nr ar tc nc ac ch U Z B L F) ++ [(a16, .inl (cI, ac, .inl (mrg B (fun _ => 0) (i9 + 1)))), (a17, .inl (cI, ac, .inl (mrg L (fun _ => 0) (i9 + 1)))), (a18, .inl (cI, ac, .inl (mrg (fun a => nI (un U Z (B a) nc)) (fun _ => 0) (i9 + 1))))]) := hD
    have hPX : va_P D vwCl (wX cI cZ q tc nc ac ch U Z B L F) H := P_l (P_l hP)
    have hPS : va_P D vwCl (wS cI cR r nr ar tc nc ac ch U Z B L F) H := P_r (P_l hP)
    have hPT : va_P D vwCl [(a16, .inl (cI, ac, .inl (mrg B (fun _ => 0) (i9 + 1)))), (a17, .inl (cI, ac, .inl (mrg L (fun _ => 0) (i9 + 1)))), (a18, .inl (cI, ac, .inl (mrg (fun a => nI (un U Z (B a) nc)) (fun _ => 0) (i9 + 1))))] H := P_r hP
    refine lv_iload hx hb dL_law_700 (lv_at hl 1 rfl) ?_
    refine lv_aload hx hb dL_law_702 (lv_at hl 4 rfl) ?_
    refine lv_iload hx hb dL_law_704 (lv_at hl 0 rfl) ?_
    refine ia_ld hx hb hK hPT 0 0 rfl rfl (j := i9) hlt9 (by omega) dL_law_706 ?_
    refine lv_cst (y := B i9) (mrg_lt (Nat.lt_succ_self i9)) ?_
    refine pcS_i (As := [.int (B i9)]) (rest := [.int (bsum B i9)]) ⟨hx, hb, hml, hown, hts⟩ (g_bitCount l (B i9)) (va_cwS 1 hts gL_law_J6_bitCount_0f7a4 rfl rfl rfl hdJ6_bitCount_0f7a4 ⟨Nat.le_of_ble_eq_true rfl, Nat.le_of_ble_eq_true rfl⟩) rfl hl.1 (Nat.le_of_ble_eq_true rfl) rfl dL_law_707 ⟨by show cells + 1 + 1 + 1 ≤ 600172; omega, by show slots + ac + ac + ac ≤ 7300668; omega⟩ ?_
    refine lv_iadd hx hb dL_law_710 ?_
    refine lv_istore (lv' := [(15, .int ((bsum B i9) + (bc (B i9)))), (19, .int (nI i9)), (18, .ref a18), (17, .ref a17), (16, .ref a16), (14, .int (nI ac)), (10, .int (nI (ct (fun k => zz U Z nc k) (pw tc)))), (7, .int (nI tc)), (5, .long (dgX tc nc ac ch U Z B L F)), (4, .int x), (3, .int (nI i)), (2, .ref (r 0)), (1, .ref (q 0)), (0, .ref b)]) hx hb dL_law_711 hl (by decide) rfl (fun ls hl => ?_)
    refine lv_aload hx hb dL_law_713 (lv_at hl 3 rfl) ?_
    refine lv_iload hx hb dL_law_715 (lv_at hl 1 rfl) ?_
    refine ia_ld hx hb hK hPT 1 0 rfl rfl (j := i9) hlt9 (by omega) dL_law_717 ?_
    refine lv_cst (y := L i9) (mrg_lt (Nat.lt_succ_self i9)) ?_
    refine lv_if_lt (tgt := 775) hx hb dL_law_718 (by decide) (fun c718 => by rw [ev9] at c718; exact absurd c718 (nI_pos (by omega))) (fun c718 => ?_)
    refine lv_aload hx hb dL_law_721 (lv_at hl 3 rfl) ?_
    refine lv_iload hx hb dL_law_723 (lv_at hl 1 rfl) ?_
    refine ia_ld hx hb hK hPT 1 0 rfl rfl (j := i9) hlt9 (by omega) dL_law_725 ?_
    refine lv_cst (y := L i9) (mrg_lt (Nat.lt_succ_self i9)) ?_
    refine lv_iconst (v := 5) hx hb dL_law_726 (by decide) ?_
    refine lv_icmp_gt (tgt := 775) hx hb dL_law_727 (by decide) (fun c727 => by rw [ev9] at c727; exact absurd c727 (nI_nlt (a := 5) hv9 (by decide))) (fun c727 => ?_)
    refine lv_aload hx hb dL_law_730 (lv_at hl 2 rfl) ?_
    refine lv_iload hx hb dL_law_732 (lv_at hl 1 rfl) ?_
    refine ia_ld hx hb hK hPT 2 0 rfl rfl (j := i9) hlt9 (by omega) dL_law_734 ?_
    refine lv_cst (y := nI (un U Z (B i9) nc)) (mrg_lt (Nat.lt_succ_self i9)) ?_
    refine lv_if_lt (tgt := 775) hx hb dL_law_735 (by decide) (fun c735 => absurd c735 (nI_pos (by have := un_le U Z (B i9) nc; omega))) (fun c735 => ?_)
    refine lv_aload hx hb dL_law_738 (lv_at hl 2 rfl) ?_
    refine lv_iload hx hb dL_law_740 (lv_at hl 1 rfl) ?_
    refine ia_ld hx hb hK hPT 2 0 rfl rfl (j := i9) hlt9 (by omega) dL_law_742 ?_
    refine lv_cst (y := nI (un U Z (B i9) nc)) (mrg_lt (Nat.lt_succ_self i9)) ?_
    refine lv_aload_n hx hb dL_law_743 rfl (lv_at hl 12 rfl) ?_
    refine pcV_i (As := []) (rest := [.int (nI (un U Z (B i9) nc))]) ⟨hx, hb, hml, hown, hts⟩ (g_X_nights l hPX htc hnc hac) (cwV 0 hts gL_law_X0_nights rfl rfl rfl hdX0_nights ⟨Nat.le_of_ble_eq_true rfl, Nat.le_of_ble_eq_true rfl⟩) (va_recv hKX hPX (ci := 0) (q0 := 0) rfl rfl) hKX rfl hl.1 (Nat.le_of_ble_eq_true rfl) rfl dL_law_744 ⟨by show cells + 1 + 1 + 1 ≤ 600172; omega, by show slots + ac + ac + ac ≤ 7300668; omega⟩ ?_
    refine lv_icmp_gt (tgt := 775) hx hb dL_law_747 (by decide) (fun c747 => absurd c747 (un_big hnc)) (fun c747 => ?_)
    refine lv_aload_n hx hb dL_law_750 rfl (lv_at hl 12 rfl) ?_
    refine lv_aload hx hb dL_law_751 (lv_at hl 4 rfl) ?_
    refine lv_iload hx hb dL_law_753 (lv_at hl 1 rfl) ?_
    refine ia_ld hx hb hK hPT 0 0 rfl rfl (j := i9) hlt9 (by omega) dL_law_755 ?_
    refine lv_cst (y := B i9) (mrg_lt (Nat.lt_succ_self i9)) ?_
    refine lv_cst (y := nI k9) hB9 ?_
    refine pcV_i (As := [.int (nI k9)]) (rest := []) ⟨hx, hb, hml, hown, hts⟩ (g_X_explainsAll l hPX htc hnc hac (k := k9) hk9) (cwV 1 hts gL_law_X0_explainsAll rfl rfl rfl hdX0_explainsAll ⟨Nat.le_of_ble_eq_true rfl, Nat.le_of_ble_eq_true rfl⟩) (va_recv hKX hPX (ci := 0) (q0 := 0) rfl rfl) hKX rfl hl.1 (Nat.le_of_ble_eq_true rfl) rfl dL_law_756 ⟨by show cells + 1 + 1 + 1 ≤ 600172; omega, by show slots + ac + ac + ac ≤ 7300668; omega⟩ ?_
    refine lv_aload hx hb dL_law_759 (lv_at hl 2 rfl) ?_
    refine lv_iload hx hb dL_law_761 (lv_at hl 1 rfl) ?_
    refine ia_ld hx hb hK hPT 2 0 rfl rfl (j := i9) hlt9 (by omega) dL_law_763 ?_
    refine lv_cst (y := nI (un U Z (B i9) nc)) (mrg_lt (Nat.lt_succ_self i9)) ?_
    refine lv_e0 (t0 := 771) hx hb dL_law_764 dL_law_767 dL_law_768 dL_law_771 (by decide) (by decide) ?_
    refine lv_ieq (tgt := 777) hx hb (by rw [hB9]; rfl) dL_law_772 (by decide) ?_
    refine lv_iinc (v := nI (i9 + 1)) (lv' := [(19, .int (nI (i9 + 1))), (15, .int ((bsum B i9) + (bc (B i9)))), (18, .ref a18), (17, .ref a17), (16, .ref a16), (14, .int (nI ac)), (10, .int (nI (ct (fun k => zz U Z nc k) (pw tc)))), (7, .int (nI tc)), (5, .long (dgX tc nc ac ch U Z B L F)), (4, .int x), (3, .int (nI i)), (2, .ref (r 0)), (1, .ref (q 0)), (0, .ref b)]) hx hb dL_law_777 hl (k := 1) rfl (nI_1 _) (by decide) rfl (fun ls hl => ?_)
    refine lv_goto (tgt := 660) hx hb dL_law_780 (by decide) ?_
    have hl := lv_sub (l' := [(19, .int (nI (i9 + 1))), (15, .int ((bsum B i9) + (bc (B i9)))), (18, .ref a18), (17, .ref a17), (16, .ref a16), (14, .int (nI ac)), (10, .int (nI (ct (fun k => zz U Z nc k) (pw tc)))), (7, .int (nI tc)), (5, .long (dgX tc nc ac ch U Z B L F)), (4, .int x), (3, .int (nI i)), (2, .ref (r 0)), (1, .ref (q 0)), (0, .ref b)]) hl [0, 1, 2, 3, 4, 5, 6, 7, 8, 9, 10, 11, 12, 13] rfl
    exact ih _ _ _ hlt9 ⟨hl, hP, hD, hS⟩
