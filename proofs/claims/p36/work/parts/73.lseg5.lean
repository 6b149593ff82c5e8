/-! the law: the best night, and the one that is chosen -/
set_option maxHeartbeats 8000000 in
set_option maxRecDepth 100000 in
theorem sg_5 (l : Launch) {p : Program} {e : Env} {s : State} {m : MethodId} {below : List Frame} {meth : Method} {c : Code} {b N : Nat} {xs : Nat → Int32} {D : va_G} {cI cZ cR : ClassId} {q : Nat → Nat} {Q : State → Prop} {H : Heap} {locs : List Loc} {ls : Array Slot} {cells slots cE sE i : Nat} {x : Int32} {a16 a17 a18 : Nat} {r nr ar : Nat → Nat} {tc nc ac : Nat} {ch : Int32} {U : Nat → Int32} {Z : Nat → Bool} {B L F : Nat → Int32} (C : LC l p s m c b N xs D cI cZ cR) (hG : Gd tc nc ac U B L F) (hS : va_S (lA s) s.heap H locs) (hP : va_P D vwCl ((wX cI cZ q tc nc ac ch U Z B L F ++ wS cI cR r nr ar tc nc ac ch U Z B L F) ++ [(a16, .inl (cI, ac, .inl B)), (a17, .inl (cI, ac, .inl L)), (a18, .inl (cI, ac, .inl (fun a => nI (un U Z (B a) nc))))]) H) (hD : va_D (lA s) ((wX cI cZ q tc nc ac ch U Z B L F ++ wS cI cR r nr ar tc nc ac ch U Z B L F) ++ [(a16, .inl (cI, ac, .inl B)), (a17, .inl (cI, ac, .inl L)), (a18, .inl (cI, ac, .inl (fun a => nI (un U Z (B a) nc))))])) (hl : lv_has ls 28 [(18, .ref a18), (17, .ref a17), (16, .ref a16), (14, .int (nI ac)), (10, .int (nI (ct (fun k => zz U Z nc k) (pw tc)))), (7, .int (nI tc)), (5, .long (dgX tc nc ac ch U Z B L F)), (4, .int x), (3, .int (nI i)), (2, .ref (r 0)), (1, .ref (q 0)), (0, .ref b)]) (hcl : cells + 2000 ≤ 600172) (hsl : slots + 300000 ≤ 7300668) (hcE : cells + 400 ≤ cE) (hsE : slots + 68000 ≤ sE) (KN : ∀ (H : Heap) (locs : List Loc) (ls : Array Slot), XS D cI cZ cR q (r 0) (lA s) H → va_S (lA s) s.heap H locs → lv_has ls 28 [(3, .int (nI i)), (2, .ref (r 0)), (1, .ref (q 0)), (0, .ref b)] → W p l e room_1 s m #[Value.ref b] below meth c H locs cE sE Q (F0 m 1183 ls [])) : W p l e room_1 s m #[Value.ref b] below meth c H locs cells slots Q (F0 m 809 ls []) := by
  obtain ⟨hx, hb, hml, hown, hts, hX, hbl, hN, hKL, hov, hnst⟩ := id C
  obtain ⟨⟨htc1, htc⟩, hnc, hac, hU, hB, hL9, hF9⟩ := id hG
  have hpw := pw_in htc
  have hpw2 : 2 ≤ pw tc := pw_mono htc1
  have hK : va_K D vwCl (tyS cI cR) s := hKL.sub [0, 2] rfl
  have hKX : va_K D vwCl (tyA cI cZ) s := hKL.sub [0, 1] rfl
  have hA : ∀ z : Nat, s.heap.size ≤ z → lA s z := fun _ h => h
  have hPX : va_P D vwCl (wX cI cZ q tc nc ac ch U Z B L F) H := P_l (P_l hP)
  have hPS : va_P D vwCl (wS cI cR r nr ar tc nc ac ch U Z B L F) H := P_r (P_l hP)
  have hPT : va_P D vwCl [(a16, .inl (cI, ac, .inl B)), (a17, .inl (cI, ac, .inl L)), (a18, .inl (cI, ac, .inl (fun a => nI (un U Z (B a) nc))))] H := P_r hP
  refine lv_aload_n hx hb dL_law_809 rfl (lv_at hl 10 rfl) ?_
  refine pcV_i (As := []) (rest := []) ⟨hx, hb, hml, hown, hts⟩ (g_X_bestNight l hPX htc hnc hac) (cwV 0 hts gL_law_X0_bestNight rfl rfl rfl hdX0_bestNight ⟨Nat.le_of_ble_eq_true rfl, Nat.le_of_ble_eq_true rfl⟩) (va_recv hKX hPX (ci := 0) (q0 := 0) rfl rfl) hKX rfl hl.1 (Nat.le_of_ble_eq_true rfl) rfl dL_law_810 ⟨by show cells ≤ 600172; omega, by show slots ≤ 7300668; omega⟩ ?_
  obtain ⟨kb, hkb0, hkb, ekb, hmin⟩ := best_k (U := U) (Z := Z) (nc := nc) htc htc1
  refine lv_cst (y := nI kb) ekb ?_
  refine lv_istore (lv' := [(19, .int (nI kb)), (18, .ref a18), (17, .ref a17), (16, .ref a16), (14, .int (nI ac)), (10, .int (nI (ct (fun k => zz U Z nc k) (pw tc)))), (7, .int (nI tc)), (5, .long (dgX tc nc ac ch U Z B L F)), (4, .int x), (3, .int (nI i)), (2, .ref (r 0)), (1, .ref (q 0)), (0, .ref b)]) hx hb dL_law_813 hl (by decide) rfl (fun ls hl => ?_)
  refine lv_iconst (v := 1) hx hb dL_law_815 (by decide) ?_
  refine lv_iload hx hb dL_law_816 (lv_at hl 8 rfl) ?_
  refine lv_iconst (v := 5) hx hb dL_law_818 (by decide) ?_
  refine lv_ishr hx hb dL_law_819 ?_
  refine lv_iconst (v := 1) hx hb dL_law_820 (by decide) ?_
  refine lv_iload hx hb dL_law_821 (lv_at hl 6 rfl) ?_
  refine lv_ishl hx hb dL_law_823 ?_
  refine lv_iconst (v := 1) hx hb dL_law_824 (by decide) ?_
  refine lv_isub hx hb dL_law_825 ?_
  refine lv_cst (y := nI (pw tc - 1)) (all_eq htc) ?_
  refine pcS_i (As := [.int (x >>> (5 &&& 31)), .int (nI (pw tc - 1))]) (rest := [.int 1]) ⟨hx, hb, hml, hown, hts⟩ (g_L_below l (v := (x >>> (5 &&& 31))) (n := (pw tc - 1)) (by omega) (by omega)) (va_cwS 2 hts gL_law_L_below rfl rfl rfl hdL_below ⟨Nat.le_of_ble_eq_true rfl, Nat.le_of_ble_eq_true rfl⟩) rfl hl.1 (Nat.le_of_ble_eq_true rfl) rfl dL_law_826 ⟨by show cells ≤ 600172; omega, by show slots ≤ 7300668; omega⟩ ?_
  obtain ⟨kj, hkj, ekj⟩ : ∃ j : Nat, j < (pw tc - 1) ∧ nI (bw (x >>> (5 &&& 31)) (pw tc - 1)) = nI j := ⟨_, bw_lt _ (by omega), rfl⟩
  refine lv_cst (y := nI kj) ekj ?_
  refine lv_iadd hx hb dL_law_829 ?_
  obtain ⟨k, hk0, hk, ek⟩ : ∃ k : Nat, 1 ≤ k ∧ k < pw tc ∧ 1 + nI kj = nI k := ⟨1 + kj, by omega, by omega, nI_add 1 _⟩
  refine lv_cst (y := nI k) ek ?_
  refine lv_istore (lv' := [(20, .int (nI k)), (19, .int (nI kb)), (18, .ref a18), (17, .ref a17), (16, .ref a16), (14, .int (nI ac)), (10, .int (nI (ct (fun k => zz U Z nc k) (pw tc)))), (7, .int (nI tc)), (5, .long (dgX tc nc ac ch U Z B L F)), (4, .int x), (3, .int (nI i)), (2, .ref (r 0)), (1, .ref (q 0)), (0, .ref b)]) hx hb dL_law_830 hl (by decide) rfl (fun ls hl => ?_)
  refine lv_aload_n hx hb dL_law_832 rfl (lv_at hl 12 rfl) ?_
  refine lv_iload hx hb dL_law_833 (lv_at hl 0 rfl) ?_
  refine pcV_i (As := [.int (nI k)]) (rest := []) ⟨hx, hb, hml, hown, hts⟩ (g_X_leftIfSmudged l hPX htc hnc hac (k := k) hk0 hk) (cwV 1 hts gL_law_X0_leftIfSmudged rfl rfl rfl hdX0_leftIfSmudged ⟨Nat.le_of_ble_eq_true rfl, Nat.le_of_ble_eq_true rfl⟩) (va_recv hKX hPX (ci := 0) (q0 := 0) rfl rfl) hKX rfl hl.1 (Nat.le_of_ble_eq_true rfl) rfl dL_law_835 ⟨by show cells ≤ 600172; omega, by show slots ≤ 7300668; omega⟩ ?_
  refine lv_istore (lv' := [(21, .int (nI (mt U Z nc (pw tc) (nI k)))), (20, .int (nI k)), (19, .int (nI kb)), (18, .ref a18), (17, .ref a17), (16, .ref a16), (14, .int (nI ac)), (10, .int (nI (ct (fun k => zz U Z nc k) (pw tc)))), (7, .int (nI tc)), (5, .long (dgX tc nc ac ch U Z B L F)), (4, .int x), (3, .int (nI i)), (2, .ref (r 0)), (1, .ref (q 0)), (0, .ref b)]) hx hb dL_law_838 hl (by decide) rfl (fun ls hl => ?_)
  refine lv_iload hx hb dL_law_840 (lv_at hl 0 rfl) ?_
  refine lv_if_lt (tgt := 893) hx hb dL_law_842 (by decide) (fun c842 => absurd c842 (nI_pos (by have := mt_le U Z nc (pw tc) (nI k); have := ct_le (fun k => zz U Z nc k) (pw tc); unfold ex at *; omega))) (fun c842 => ?_)
  refine lv_iload hx hb dL_law_845 (lv_at hl 0 rfl) ?_
  refine lv_iload hx hb dL_law_847 (lv_at hl 7 rfl) ?_
  refine lv_icmp_gt (tgt := 893) hx hb dL_law_849 (by decide) (fun c849 => absurd c849 (nI_nlt (mt_le U Z nc (pw tc) (nI k)) (by have := ct_le (fun k => zz U Z nc k) (pw tc); omega))) (fun c849 => ?_)
  refine lv_aload_n hx hb dL_law_852 rfl (lv_at hl 13 rfl) ?_
  refine lv_iload hx hb dL_law_853 (lv_at hl 2 rfl) ?_
  refine pcV_i (As := [.int (nI kb)]) (rest := []) ⟨hx, hb, hml, hown, hts⟩ (g_X_leftIfSmudged l hPX htc hnc hac (k := kb) hkb0 hkb) (cwV 1 hts gL_law_X0_leftIfSmudged rfl rfl rfl hdX0_leftIfSmudged ⟨Nat.le_of_ble_eq_true rfl, Nat.le_of_ble_eq_true rfl⟩) (va_recv hKX hPX (ci := 0) (q0 := 0) rfl rfl) hKX rfl hl.1 (Nat.le_of_ble_eq_true rfl) rfl dL_law_855 ⟨by show cells ≤ 600172; omega, by show slots ≤ 7300668; omega⟩ ?_
  refine lv_iload hx hb dL_law_858 (lv_at hl 7 rfl) ?_
  refine lv_aload_n hx hb dL_law_860 rfl (lv_at hl 13 rfl) ?_
  refine lv_iload hx hb dL_law_861 (lv_at hl 2 rfl) ?_
  refine pcV_i (As := [.int (nI kb)]) (rest := [.int (nI (ct (fun k => zz U Z nc k) (pw tc))), .int (nI (mt U Z nc (pw tc) (nI kb)))]) ⟨hx, hb, hml, hown, hts⟩ (g_X_leftIfSmudged l hPX htc hnc hac (k := kb) hkb0 hkb) (cwV 1 hts gL_law_X0_leftIfSmudged rfl rfl rfl hdX0_leftIfSmudged ⟨Nat.le_of_ble_eq_true rfl, Nat.le_of_ble_eq_true rfl⟩) (va_recv hKX hPX (ci := 0) (q0 := 0) rfl rfl) hKX rfl hl.1 (Nat.le_of_ble_eq_true rfl) rfl dL_law_863 ⟨by show cells ≤ 600172; omega, by show slots ≤ 7300668; omega⟩ ?_
  refine lv_isub hx hb dL_law_866 ?_
  refine va_mmax hx hb (by rw [hml]; exact hl.1.symm) hown (hts (.methodLink RL 150 Lib.Math.max.name) (List.mem_of_getElem? (i := 4) rfl)) (hts (.static Lib.Math.max.name) (List.mem_of_getElem? (i := 5) rfl)) (hts (.initialized "java/lang/Math") (List.mem_of_getElem? (i := 6) rfl)) (hts (.code Lib.Math.max.name Lib.Math.max.code 2 (some .int)) (List.mem_of_getElem? (i := 7) rfl)) (Nat.le_of_ble_eq_true rfl) (Nat.le_of_ble_eq_true rfl) (by show _ ≤ 600172; omega) (by show _ ≤ 7300668; omega) dL_law_867 ?_
  refine lv_iload hx hb dL_law_870 (lv_at hl 0 rfl) ?_
  refine lv_iload hx hb dL_law_872 (lv_at hl 7 rfl) ?_
  refine lv_iload hx hb dL_law_874 (lv_at hl 0 rfl) ?_
  refine lv_isub hx hb dL_law_876 ?_
  refine va_mmax hx hb (by rw [hml]; exact hl.1.symm) hown (hts (.methodLink RL 150 Lib.Math.max.name) (List.mem_of_getElem? (i := 4) rfl)) (hts (.static Lib.Math.max.name) (List.mem_of_getElem? (i := 5) rfl)) (hts (.initialized "java/lang/Math") (List.mem_of_getElem? (i := 6) rfl)) (hts (.code Lib.Math.max.name Lib.Math.max.code 2 (some .int)) (List.mem_of_getElem? (i := 7) rfl)) (Nat.le_of_ble_eq_true rfl) (Nat.le_of_ble_eq_true rfl) (by show _ ≤ 600172; omega) (by show _ ≤ 7300668; omega) dL_law_877 ?_
  refine lv_icmp_gt (tgt := 893) hx hb dL_law_880 (by decide) (fun c880 => absurd c880 (hmin k hk0 hk)) (fun c880 => ?_)
  refine lv_aload_n hx hb dL_law_883 rfl (lv_at hl 13 rfl) ?_
  refine pcV_l (As := []) (rest := []) ⟨hx, hb, hml, hown, hts⟩ (g_X_digestV l hPX htc hnc hac hB) (cwV 0 hts gL_law_X0_digest rfl rfl rfl hdX0_digest ⟨Nat.le_of_ble_eq_true rfl, Nat.le_of_ble_eq_true rfl⟩) (va_recv hKX hPX (ci := 0) (q0 := 0) rfl rfl) hKX rfl hl.1 (Nat.le_of_ble_eq_true rfl) rfl dL_law_884 ⟨by show cells ≤ 600172; omega, by show slots ≤ 7300668; omega⟩ ?_
  refine lv_lload hx hb dL_law_887 (lv_at hl 9 rfl) ?_
  refine lv_leq hx hb rfl dL_law_889 dL_law_890 (tgt := 895) (by decide) ?_
  refine lv_aload_n hx hb dL_law_895 rfl (lv_at hl 13 rfl) ?_
  refine pcV_i (As := []) (rest := []) ⟨hx, hb, hml, hown, hts⟩ (g_X_nights l hPX htc hnc hac) (cwV 0 hts gL_law_X0_nights rfl rfl rfl hdX0_nights ⟨Nat.le_of_ble_eq_true rfl, Nat.le_of_ble_eq_true rfl⟩) (va_recv hKX hPX (ci := 0) (q0 := 0) rfl rfl) hKX rfl hl.1 (Nat.le_of_ble_eq_true rfl) rfl dL_law_896 ⟨by show cells ≤ 600172; omega, by show slots ≤ 7300668; omega⟩ ?_
  refine lv_bipush (v := 40) hx hb dL_law_899 (by decide) ?_
  refine lv_icmp_ne (tgt := 907) hx hb dL_law_901 (by decide) (fun c901 => ?_) (fun c901 => ?_)
  · have h40 : nc < 40 := by
      rcases (show nc < 40 ∨ nc = 40 by omega) with h | h
      · exact h
      · exact absurd (by rw [h]; rfl) c901
    exact sg_6 l C hG hS hP hD (lv_sub hl [0, 1, 3, 4, 5, 6, 7, 9, 10, 11, 12, 13, 14] rfl) hcl hsl hcE hsE hk0 hk h40 KN
  · skip
    refine lv_goto (tgt := 1183) hx hb dL_law_904 (by decide) ?_
    refine W.widen (k := cE) (n := sE) (by omega) (by omega) ?_
    exact KN _ _ _ ⟨_, _, _, _, _, _, _, _, _, r, _, _, rfl, hG, P_l hP, D_lA hD⟩ hS (lv_sub hl [11, 12, 13, 14] rfl)
