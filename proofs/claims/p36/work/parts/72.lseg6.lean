/-! the law: from the night that is chosen to a round's end -/
set_option maxHeartbeats 8000000 in
set_option maxRecDepth 100000 in
theorem sg_6 (l : Launch) {p : Program} {e : Env} {s : State} {m : MethodId} {below : List Frame} {meth : Method} {c : Code} {b N : Nat} {xs : Nat → Int32} {D : va_G} {cI cZ cR : ClassId} {q : Nat → Nat} {Q : State → Prop} {H : Heap} {locs : List Loc} {ls : Array Slot} {cells slots cE sE i : Nat} {x : Int32} {k a16 a17 a18 : Nat} {r nr ar : Nat → Nat} {tc nc ac : Nat} {ch : Int32} {U : Nat → Int32} {Z : Nat → Bool} {B L F : Nat → Int32} (C : LC l p s m c b N xs D cI cZ cR) (hG : Gd tc nc ac U B L F) (hS : va_S (lA s) s.heap H locs) (hP : va_P D vwCl ((wX cI cZ q tc nc ac ch U Z B L F ++ wS cI cR r nr ar tc nc ac ch U Z B L F) ++ [(a16, .inl (cI, ac, .inl B)), (a17, .inl (cI, ac, .inl L)), (a18, .inl (cI, ac, .inl (fun a => nI (un U Z (B a) nc))))]) H) (hD : va_D (lA s) ((wX cI cZ q tc nc ac ch U Z B L F ++ wS cI cR r nr ar tc nc ac ch U Z B L F) ++ [(a16, .inl (cI, ac, .inl B)), (a17, .inl (cI, ac, .inl L)), (a18, .inl (cI, ac, .inl (fun a => nI (un U Z (B a) nc))))])) (hl : lv_has ls 28 [(21, .int (nI (mt U Z nc (pw tc) (nI k)))), (20, .int (nI k)), (18, .ref a18), (17, .ref a17), (16, .ref a16), (14, .int (nI ac)), (10, .int (nI (ct (fun k => zz U Z nc k) (pw tc)))), (5, .long (dgX tc nc ac ch U Z B L F)), (4, .int x), (3, .int (nI i)), (2, .ref (r 0)), (1, .ref (q 0)), (0, .ref b)]) (hcl : cells + 2000 ≤ 600172) (hsl : slots + 300000 ≤ 7300668) (hcE : cells + 400 ≤ cE) (hsE : slots + 68000 ≤ sE) (hk0 : 1 ≤ k) (hk : k < pw tc) (h40 : nc < 40) (KN : ∀ (H : Heap) (locs : List Loc) (ls : Array Slot), XS D cI cZ cR q (r 0) (lA s) H → va_S (lA s) s.heap H locs → lv_has ls 28 [(3, .int (nI i)), (2, .ref (r 0)), (1, .ref (q 0)), (0, .ref b)] → W p l e room_1 s m #[Value.ref b] below meth c H locs cE sE Q (F0 m 1183 ls [])) : W p l e room_1 s m #[Value.ref b] below meth c H locs cells slots Q (F0 m 907 ls []) := by
  obtain ⟨hx, hb, hml, hown, hts, hX, hbl, hN, hKL, hov, hnst⟩ := id C
  obtain ⟨⟨htc1, htc⟩, hnc, hac, hU, hB, hL9, hF9⟩ := id hG
  have hpw := pw_in htc
  have hpw2 : 2 ≤ pw tc := pw_mono htc1
  have hK : va_K D vwCl (tyS cI cR) s := hKL.sub [0, 2] rfl
  have hKX : va_K D vwCl (tyA cI cZ) s := hKL.sub [0, 1] rfl
  have hA : ∀ z : Nat, s.heap.size ≤ z → lA s z := fun _ h => h
  have hPX : va_P D vwCl (wX cI cZ q tc nc ac ch U Z B L F) H := P_l (P_l hP)
  have hPS : va_P D vwCl (wS cI cR r nr ar tc nc ac ch U Z B L F) H := P_r (P_l hP)
  have hPT : va_P D vwCl [(a16, .inl (cI, ac, .inl B)), (a17, .inl (cI, ac, .inl L)), (a18, .inl (cI, ac, .inl (fun a => nI (un U Z (B a) nc))))] H := P_r hP
  refine lv_iload hx hb dL_law_907 (lv_at hl 8 rfl) ?_
  refine lv_iconst (v := 4) hx hb dL_law_909 (by decide) ?_
  refine lv_ishr hx hb dL_law_910 ?_
  refine lv_iconst (v := 2) hx hb dL_law_911 (by decide) ?_
  refine lv_cst (y := nI 2) rfl ?_
  refine pcS_i (As := [.int (x >>> (4 &&& 31)), .int (nI 2)]) (rest := []) ⟨hx, hb, hml, hown, hts⟩ (g_L_below l (v := (x >>> (4 &&& 31))) (n := 2) (by omega) (by omega)) (va_cwS 2 hts gL_law_L_below rfl rfl rfl hdL_below ⟨Nat.le_of_ble_eq_true rfl, Nat.le_of_ble_eq_true rfl⟩) rfl hl.1 (Nat.le_of_ble_eq_true rfl) rfl dL_law_912 ⟨by show cells ≤ 600172; omega, by show slots ≤ 7300668; omega⟩ ?_
  refine lv_e0 (t0 := 922) hx hb dL_law_915 dL_law_918 dL_law_919 dL_law_922 (by decide) (by decide) ?_
  obtain ⟨z, ez⟩ : ∃ z : Bool, bI (decide (nI (bw (x >>> (4 &&& 31)) 2) = 0)) = bI z := ⟨decide (nI (bw (x >>> (4 &&& 31)) 2) = 0), rfl⟩
  refine lv_cst (y := bI z) ez ?_
  refine lv_istore (lv' := [(22, .int (bI z)), (21, .int (nI (mt U Z nc (pw tc) (nI k)))), (20, .int (nI k)), (18, .ref a18), (17, .ref a17), (16, .ref a16), (14, .int (nI ac)), (10, .int (nI (ct (fun k => zz U Z nc k) (pw tc)))), (5, .long (dgX tc nc ac ch U Z B L F)), (4, .int x), (3, .int (nI i)), (2, .ref (r 0)), (1, .ref (q 0)), (0, .ref b)]) hx hb dL_law_923 hl (by decide) rfl (fun ls hl => ?_)
  refine lv_aload_n hx hb dL_law_925 rfl (lv_at hl 12 rfl) ?_
  refine lv_iload hx hb dL_law_926 (lv_at hl 2 rfl) ?_
  refine lv_iload hx hb dL_law_928 (lv_at hl 0 rfl) ?_
  refine pcV_i (As := [.int (nI k), .int (bI z)]) (rest := []) ⟨hx, hb, hml, hown, hts⟩ (g_X_wouldChange l hPX htc hnc hac (k := k) (z := z) hk0 hk h40) (cwV 2 hts gL_law_X0_wouldChange rfl rfl rfl hdX0_wouldChange ⟨Nat.le_of_ble_eq_true rfl, Nat.le_of_ble_eq_true rfl⟩) (va_recv hKX hPX (ci := 0) (q0 := 0) rfl rfl) hKX rfl hl.1 (Nat.le_of_ble_eq_true rfl) rfl dL_law_930 ⟨by show cells ≤ 600172; omega, by show slots ≤ 7300668; omega⟩ ?_
  refine lv_cst (y := nI (ct (sC B L (nI k) z ((spx (fun j => zz (upd U nc (nI k)) (updB Z nc z) (nc + 1) j) (pw tc)).1)) ac)) (wc_sC h40 htc hL9 (nI k) z) ?_
  refine lv_istore (lv' := [(23, .int (nI (ct (sC B L (nI k) z ((spx (fun j => zz (upd U nc (nI k)) (updB Z nc z) (nc + 1) j) (pw tc)).1)) ac))), (22, .int (bI z)), (21, .int (nI (mt U Z nc (pw tc) (nI k)))), (20, .int (nI k)), (18, .ref a18), (17, .ref a17), (16, .ref a16), (14, .int (nI ac)), (10, .int (nI (ct (fun k => zz U Z nc k) (pw tc)))), (5, .long (dgX tc nc ac ch U Z B L F)), (4, .int x), (3, .int (nI i)), (2, .ref (r 0)), (1, .ref (q 0)), (0, .ref b)]) hx hb dL_law_933 hl (by decide) rfl (fun ls hl => ?_)
  refine lv_aload_n hx hb dL_law_935 rfl (lv_at hl 13 rfl) ?_
  refine pcV_i (As := []) (rest := []) ⟨hx, hb, hml, hown, hts⟩ (g_X_changesOfMind l hPX htc hnc hac) (cwV 0 hts gL_law_X0_changesOfMind rfl rfl rfl hdX0_changesOfMind ⟨Nat.le_of_ble_eq_true rfl, Nat.le_of_ble_eq_true rfl⟩) (va_recv hKX hPX (ci := 0) (q0 := 0) rfl rfl) hKX rfl hl.1 (Nat.le_of_ble_eq_true rfl) rfl dL_law_936 ⟨by show cells ≤ 600172; omega, by show slots ≤ 7300668; omega⟩ ?_
  refine lv_istore (lv' := [(24, .int ch), (23, .int (nI (ct (sC B L (nI k) z ((spx (fun j => zz (upd U nc (nI k)) (updB Z nc z) (nc + 1) j) (pw tc)).1)) ac))), (22, .int (bI z)), (21, .int (nI (mt U Z nc (pw tc) (nI k)))), (20, .int (nI k)), (18, .ref a18), (17, .ref a17), (16, .ref a16), (14, .int (nI ac)), (10, .int (nI (ct (fun k => zz U Z nc k) (pw tc)))), (5, .long (dgX tc nc ac ch U Z B L F)), (4, .int x), (3, .int (nI i)), (2, .ref (r 0)), (1, .ref (q 0)), (0, .ref b)]) hx hb dL_law_939 hl (by decide) rfl (fun ls hl => ?_)
  refine lv_aload_n hx hb dL_law_941 rfl (lv_at hl 14 rfl) ?_
  refine pcV_l (As := []) (rest := []) ⟨hx, hb, hml, hown, hts⟩ (g_X_digestV l hPX htc hnc hac hB) (cwV 0 hts gL_law_X0_digest rfl rfl rfl hdX0_digest ⟨Nat.le_of_ble_eq_true rfl, Nat.le_of_ble_eq_true rfl⟩) (va_recv hKX hPX (ci := 0) (q0 := 0) rfl rfl) hKX rfl hl.1 (Nat.le_of_ble_eq_true rfl) rfl dL_law_942 ⟨by show cells ≤ 600172; omega, by show slots ≤ 7300668; omega⟩ ?_
  refine lv_lload hx hb dL_law_945 (lv_at hl 10 rfl) ?_
  refine lv_lne hx hb rfl dL_law_947 dL_law_948 (tgt := 1011) (by decide) ?_
  refine lv_aload_n hx hb dL_law_951 rfl (lv_at hl 14 rfl) ?_
  refine lv_iload hx hb dL_law_952 (lv_at hl 4 rfl) ?_
  refine lv_iload hx hb dL_law_954 (lv_at hl 2 rfl) ?_
  refine wcV_i (As := [.int (nI k), .int (bI z)]) (rest := []) ⟨hx, hb, hml, hown, hts⟩ (w_X_writeDown l hPX htc hnc hac (D_l (D_lA hD)) hk0 hk h40) (cwV 2 hts gL_law_X0_writeDown rfl rfl rfl hdX0_writeDown ⟨Nat.le_of_ble_eq_true rfl, Nat.le_of_ble_eq_true rfl⟩) (va_recv hKX hPX (ci := 0) (q0 := 0) rfl rfl) hKX hS (fr_l (D_lA hD) hS hA) rfl hl.1 (Nat.le_of_ble_eq_true rfl) rfl dL_law_956 ⟨by show cells ≤ 600172; omega, by show slots ≤ 7300668; omega⟩ (fun H1 locs hP1 hz1 hk1 hS => ?_)
  have hP := up_l3 hP hD hk1 hP1
  have hD : va_D (lA s) ((wX cI cZ q tc (nc + 1) ac (ch + nI (ct (sC B L (nI k) z ((spx (fun j => zz (upd U nc (nI k)) (updB Z nc z) (nc + 1) j) (pw tc)).1)) ac)) (upd U nc (nI k)) (updB Z nc z) (mrg (sB B L (nI k) z ((spx (fun j => zz (upd U nc (nI k)) (updB Z nc z) (nc + 1) j) (pw tc)).1)) B ac) (mrg (sL B L F (nI k) z ((spx (fun j => zz (upd U nc (nI k)) (updB Z nc z) (nc + 1) j) (pw tc)).1)) L ac) F ++ wS cI cR r nr ar tc nc ac ch U Z B L F) ++ [(a16, .inl (cI, ac, .inl B)), (a17, .inl (cI, ac, .inl L)), (a18, .inl (cI, ac, .inl (fun a => nI (un U Z (B a) nc))))]) := va_D_re hD rfl
  clear hP1 hk1 hz1 hPX hPS hPT
  generalize H1 = H at hP hS ⊢
  have hP : va_P D vwCl ((wX cI cZ q tc (nc + 1) ac (ch + nI (ct (sC B L (nI k) z ((spx (fun j => zz (upd U nc (nI k)) (updB Z nc z) (nc + 1) j) (pw tc)).1)) ac)) (upd U nc (nI k)) (updB Z nc z) (mrg (sB B L (nI k) z ((spx (fun j => zz (upd U nc (nI k)) (updB Z nc z) (nc + 1) j) (pw tc)).1)) B ac) (mrg (sL B L F (nI k) z ((spx (fun j => zz (upd U nc (nI k)) (updB Z nc z) (nc + 1) j) (pw tc)).1)) L ac) F ++ wS cI cR r nr ar tc nc ac ch U Z B L F) ++ [(a16, .inl (cI, ac, .inl B)), (a17, .inl (cI, ac, .inl L)), (a18, .inl (cI, ac, .inl (fun a => nI (un U Z (B a) nc))))]) H := hP
  have hPX : va_P D vwCl (wX cI cZ q tc (nc + 1) ac (ch + nI (ct (sC B L (nI k) z ((spx (fun j => zz (upd U nc (nI k)) (updB Z nc z) (nc + 1) j) (pw tc)).1)) ac)) (upd U nc (nI k)) (updB Z nc z) (mrg (sB B L (nI k) z ((spx (fun j => zz (upd U nc (nI k)) (updB Z nc z) (nc + 1) j) (pw tc)).1)) B ac) (mrg (sL B L F (nI k) z ((spx (fun j => zz (upd U nc (nI k)) (updB Z nc z) (nc + 1) j) (pw tc)).1)) L ac) F) H := P_l (P_l hP)
  have hPS : va_P D vwCl (wS cI cR r nr ar tc nc ac ch U Z B L F) H := P_r (P_l hP)
  have hPT : va_P D vwCl [(a16, .inl (cI, ac, .inl B)), (a17, .inl (cI, ac, .inl L)), (a18, .inl (cI, ac, .inl (fun a => nI (un U Z (B a) nc))))] H := P_r hP
  refine lv_iload hx hb dL_law_959 (lv_at hl 1 rfl) ?_
  refine lv_icmp_ne (tgt := 1011) hx hb dL_law_961 (by decide) (fun c961 => absurd rfl c961) (fun c961 => ?_)
  refine lv_aload_n hx hb dL_law_964 rfl (lv_at hl 13 rfl) ?_
  refine lv_iload hx hb dL_law_965 (lv_at hl 4 rfl) ?_
  refine lv_iload hx hb dL_law_967 (lv_at hl 2 rfl) ?_
  have hFr := fr_r (D_lA hD) hS hA
  refine va_calli (va_runV (As := [.int (nI k), .int (bI z)]) (rest := []) ⟨hx, hb, hml, hown, hts⟩ (w_S_write l hPS htc hnc hac (D_r (D_lA hD)) hU hB hk h40) (cwV 2 hts gL_law_X1_write rfl rfl rfl hdX1_write ⟨Nat.le_of_ble_eq_true rfl, Nat.le_of_ble_eq_true rfl⟩) ⟨rdo_blind, (va_recv hK hPS (ci := 1) (q0 := 0) rfl rfl), rdo_pre hK hov⟩ rfl rfl hl.1 rfl (lv_room (Nat.le_of_ble_eq_true rfl)) dL_law_969 ⟨by show cells + 300 ≤ 600172; omega, by show slots + 66000 ≤ 7300668; omega⟩) hS (fun z _ h => hFr z h) hFr (fun r9 u t9 H1 locs ht9 hvm9 hw9 hB9 hz1 hk1 hS => ?_)
  obtain ⟨q9, b9, hP9, hD9⟩ := hB9
  rw [ht9] at hP9
  subst hw9
  have hPT := keepT hP hD hk1
  have hD1 := up_rD (P_l hP) (D_lA hD) hFr hD9
  have hP1 := up_r (P_l hP) (D_lA hD) hk1 hP9
  clear hP hD hP9 hk1 hz1 hPX hPS hD9 hFr
  have hP := hP1
  have hD := hD1
  clear hP1 hD1
  generalize H1 = H at hP hS hPT ⊢
  have hP : va_P D vwCl (wX cI cZ q tc (nc + 1) ac (ch + nI (ct (sC B L (nI k) z ((spx (fun j => zz (upd U nc (nI k)) (updB Z nc z) (nc + 1) j) (pw tc)).1)) ac)) (upd U nc (nI k)) (updB Z nc z) (mrg (sB B L (nI k) z ((spx (fun j => zz (upd U nc (nI k)) (updB Z nc z) (nc + 1) j) (pw tc)).1)) B ac) (mrg (sL B L F (nI k) z ((spx (fun j => zz (upd U nc (nI k)) (updB Z nc z) (nc + 1) j) (pw tc)).1)) L ac) F ++ wS cI cR (rr r 1 q9) (va_up nr nc b9) ar tc (nc + 1) ac (ch + nI (ct (sC B L (nI k) z ((spx (fun j => zz (upd U nc (nI k)) (updB Z nc z) (nc + 1) j) (pw tc)).1)) ac)) (upd U nc (nI k)) (updB Z nc z) (mrg (sB B L (nI k) z ((spx (fun j => zz (upd U nc (nI k)) (updB Z nc z) (nc + 1) j) (pw tc)).1)) B ac) (mrg (sL B L F (nI k) z ((spx (fun j => zz (upd U nc (nI k)) (updB Z nc z) (nc + 1) j) (pw tc)).1)) L ac) F) H := hP
  have hD : va_D (lA s) (wX cI cZ q tc (nc + 1) ac (ch + nI (ct (sC B L (nI k) z ((spx (fun j => zz (upd U nc (nI k)) (updB Z nc z) (nc + 1) j) (pw tc)).1)) ac)) (upd U nc (nI k)) (updB Z nc z) (mrg (sB B L (nI k) z ((spx (fun j => zz (upd U nc (nI k)) (updB Z nc z) (nc + 1) j) (pw tc)).1)) B ac) (mrg (sL B L F (nI k) z ((spx (fun j => zz (upd U nc (nI k)) (updB Z nc z) (nc + 1) j) (pw tc)).1)) L ac) F ++ wS cI cR (rr r 1 q9) (va_up nr nc b9) ar tc (nc + 1) ac (ch + nI (ct (sC B L (nI k) z ((spx (fun j => zz (upd U nc (nI k)) (updB Z nc z) (nc + 1) j) (pw tc)).1)) ac)) (upd U nc (nI k)) (updB Z nc z) (mrg (sB B L (nI k) z ((spx (fun j => zz (upd U nc (nI k)) (updB Z nc z) (nc + 1) j) (pw tc)).1)) B ac) (mrg (sL B L F (nI k) z ((spx (fun j => zz (upd U nc (nI k)) (updB Z nc z) (nc + 1) j) (pw tc)).1)) L ac) F) := hD
  have hPX : va_P D vwCl (wX cI cZ q tc (nc + 1) ac (ch + nI (ct (sC B L (nI k) z ((spx (fun j => zz (upd U nc (nI k)) (updB Z nc z) (nc + 1) j) (pw tc)).1)) ac)) (upd U nc (nI k)) (updB Z nc z) (mrg (sB B L (nI k) z ((spx (fun j => zz (upd U nc (nI k)) (updB Z nc z) (nc + 1) j) (pw tc)).1)) B ac) (mrg (sL B L F (nI k) z ((spx (fun j => zz (upd U nc (nI k)) (updB Z nc z) (nc + 1) j) (pw tc)).1)) L ac) F) H := P_l hP
  have hPS : va_P D vwCl (wS cI cR (rr r 1 q9) (va_up nr nc b9) ar tc (nc + 1) ac (ch + nI (ct (sC B L (nI k) z ((spx (fun j => zz (upd U nc (nI k)) (updB Z nc z) (nc + 1) j) (pw tc)).1)) ac)) (upd U nc (nI k)) (updB Z nc z) (mrg (sB B L (nI k) z ((spx (fun j => zz (upd U nc (nI k)) (updB Z nc z) (nc + 1) j) (pw tc)).1)) B ac) (mrg (sL B L F (nI k) z ((spx (fun j => zz (upd U nc (nI k)) (updB Z nc z) (nc + 1) j) (pw tc)).1)) L ac) F) H := P_r hP
  have hG1 := gd_write (p := fun j => zz (upd U nc (nI k)) (updB Z nc z) (nc + 1) j) hG h40 hk z
  obtain ⟨-, hnc1, -, hU1, hB1, hL1, hF1⟩ := id hG1
  refine W.widen (k := cells + 300) (n := slots + 66000) (by omega) (by omega) ?_
  refine lv_iload hx hb dL_law_972 (lv_at hl 1 rfl) ?_
  refine lv_icmp_ne (tgt := 1011) hx hb dL_law_974 (by decide) (fun c974 => absurd rfl c974) (fun c974 => ?_)
  refine lv_aload_n hx hb dL_law_977 rfl (lv_at hl 14 rfl) ?_
  refine pcV_i (As := []) (rest := []) ⟨hx, hb, hml, hown, hts⟩ (g_X_changesOfMind l hPX htc hnc1 hac) (cwV 0 hts gL_law_X0_changesOfMind rfl rfl rfl hdX0_changesOfMind ⟨Nat.le_of_ble_eq_true rfl, Nat.le_of_ble_eq_true rfl⟩) (va_recv hKX hPX (ci := 0) (q0 := 0) rfl rfl) hKX rfl hl.1 (Nat.le_of_ble_eq_true rfl) rfl dL_law_978 ⟨by show cells + 300 ≤ 600172; omega, by show slots + 66000 ≤ 7300668; omega⟩ ?_
  refine lv_iload hx hb dL_law_981 (lv_at hl 0 rfl) ?_
  refine lv_iload hx hb dL_law_983 (lv_at hl 1 rfl) ?_
  refine lv_iadd hx hb dL_law_985 ?_
  refine lv_icmp_ne (tgt := 1011) hx hb dL_law_986 (by decide) (fun c986 => absurd rfl c986) (fun c986 => ?_)
  refine lv_aload_n hx hb dL_law_989 rfl (lv_at hl 14 rfl) ?_
  refine pcV_i (As := []) (rest := []) ⟨hx, hb, hml, hown, hts⟩ (g_X_explanations l hPX htc hnc1 hac) (cwV 0 hts gL_law_X0_explanations rfl rfl rfl hdX0_explanations ⟨Nat.le_of_ble_eq_true rfl, Nat.le_of_ble_eq_true rfl⟩) (va_recv hKX hPX (ci := 0) (q0 := 0) rfl rfl) hKX rfl hl.1 (Nat.le_of_ble_eq_true rfl) rfl dL_law_990 ⟨by show cells + 300 ≤ 600172; omega, by show slots + 66000 ≤ 7300668; omega⟩ ?_
  refine lv_iload hx hb dL_law_993 (lv_at hl 2 rfl) ?_
  refine lv_fork (fun _ : Unit => F0 m 1013 ls []) (fun u9 => ?_) (fun K => ?_)
  · skip
    refine lv_iconst (v := 0) hx hb dL_law_1013 (by decide) ?_
    refine lv_istore (lv' := [(25, .int 0), (24, .int ch), (23, .int (nI (ct (sC B L (nI k) z ((spx (fun j => zz (upd U nc (nI k)) (updB Z nc z) (nc + 1) j) (pw tc)).1)) ac))), (22, .int (bI z)), (21, .int (nI (mt U Z nc (pw tc) (nI k)))), (20, .int (nI k)), (18, .ref a18), (17, .ref a17), (16, .ref a16), (14, .int (nI ac)), (10, .int (nI (ct (fun k => zz U Z nc k) (pw tc)))), (5, .long (dgX tc nc ac ch U Z B L F)), (4, .int x), (3, .int (nI i)), (2, .ref (r 0)), (1, .ref (q 0)), (0, .ref b)]) hx hb dL_law_1014 hl (by decide) rfl (fun ls hl => ?_)
    refine lv_iconst (v := 0) hx hb dL_law_1016 (by decide) ?_
    refine lv_istore (lv' := [(26, .int 0), (25, .int 0), (24, .int ch), (23, .int (nI (ct (sC B L (nI k) z ((spx (fun j => zz (upd U nc (nI k)) (updB Z nc z) (nc + 1) j) (pw tc)).1)) ac))), (22, .int (bI z)), (21, .int (nI (mt U Z nc (pw tc) (nI k)))), (20, .int (nI k)), (18, .ref a18), (17, .ref a17), (16, .ref a16), (14, .int (nI ac)), (10, .int (nI (ct (fun k => zz U Z nc k) (pw tc)))), (5, .long (dgX tc nc ac ch U Z B L F)), (4, .int x), (3, .int (nI i)), (2, .ref (r 0)), (1, .ref (q 0)), (0, .ref b)]) hx hb dL_law_1017 hl (by decide) rfl (fun ls hl => ?_)
    refine w_loop (N := ac) (T := fun i9 => [(26, .int (nI i9)), (25, .int (nI (ct (sC B L (nI k) z ((spx (fun j => zz (upd U nc (nI k)) (updB Z nc z) (nc + 1) j) (pw tc)).1)) i9))), (24, .int ch), (23, .int (nI (ct (sC B L (nI k) z ((spx (fun j => zz (upd U nc (nI k)) (updB Z nc z) (nc + 1) j) (pw tc)).1)) ac))), (22, .int (bI z)), (21, .int (nI (mt U Z nc (pw tc) (nI k)))), (20, .int (nI k)), (18, .ref a18), (17, .ref a17), (16, .ref a16), (14, .int (nI ac)), (10, .int (nI (ct (fun k => zz U Z nc k) (pw tc)))), (5, .long (dgX tc nc ac ch U Z B L F)), (4, .int x), (3, .int (nI i)), (2, .ref (r 0)), (1, .ref (q 0)), (0, .ref b)]) (I := fun _ => True) 0 (Nat.zero_le _) trivial (lv_sub hl [0, 1, 2, 3, 4, 5, 6, 7, 8, 9, 10, 11, 12, 13, 14, 15, 16, 17] rfl) (fun i9 ls hi9 hI9 hl ih9 => ?_)
    have hl : lv_has ls 28 [(26, .int (nI i9)), (25, .int (nI (ct (sC B L (nI k) z ((spx (fun j => zz (upd U nc (nI k)) (updB Z nc z) (nc + 1) j) (pw tc)).1)) i9))), (24, .int ch), (23, .int (nI (ct (sC B L (nI k) z ((spx (fun j => zz (upd U nc (nI k)) (updB Z nc z) (nc + 1) j) (pw tc)).1)) ac))), (22, .int (bI z)), (21, .int (nI (mt U Z nc (pw tc) (nI k)))), (20, .int (nI k)), (18, .ref a18), (17, .ref a17), (16, .ref a16), (14, .int (nI ac)), (10, .int (nI (ct (fun k => zz U Z nc k) (pw tc)))), (5, .long (dgX tc nc ac ch U Z B L F)), (4, .int x), (3, .int (nI i)), (2, .ref (r 0)), (1, .ref (q 0)), (0, .ref b)] := hl
    refine lv_iload hx hb dL_law_1019 (lv_at hl 0 rfl) ?_
    refine lv_iload hx hb dL_law_1021 (lv_at hl 10 rfl) ?_
    refine lv_icmp_ge (tgt := 1174) hx hb dL_law_1023 (by decide) (fun c1023 => ?_) (fun c1023 => ?_)
    · skip
      have hie9 : i9 = ac := gd_ge_t (by omega) hi9 c1023
      rw [hie9] at hl
      refine lv_iload hx hb dL_law_1174 (lv_at hl 1 rfl) ?_
      refine lv_iload hx hb dL_law_1176 (lv_at hl 3 rfl) ?_
      refine lv_icmp_eq (tgt := 1183) hx hb dL_law_1178 (by decide) (fun c1178 => ?_) (fun c1178 => absurd rfl c1178)
      refine W.widen (k := cE) (n := sE) (by omega) (by omega) ?_
      exact KN _ _ _ ⟨_, _, _, _, _, _, _, _, _, (rr r 1 q9), _, _, rfl, hG1, hP, hD⟩ hS (lv_sub hl [14, 15, 16, 17] rfl)
    · skip
      have hlt9 : i9 < ac := gd_ge_f hi9 c1023
      refine lv_aload hx hb dL_law_1026 (lv_at hl 9 rfl) ?_
      refine lv_iload hx hb dL_law_1028 (lv_at hl 0 rfl) ?_
      refine ia_ld hx hb hK hPT 0 0 rfl rfl (j := i9) (hlt9) (by omega) dL_law_1030 ?_
      refine lv_iload hx hb dL_law_1031 (lv_at hl 6 rfl) ?_
      refine lv_iand hx hb dL_law_1033 ?_
      refine lv_bz (t0 := 1041) hx hb dL_law_1034 dL_law_1037 dL_law_1038 dL_law_1041 (by decide) (by decide) ?_
      refine lv_iload hx hb dL_law_1042 (lv_at hl 4 rfl) ?_
      refine lv_be (t0 := 1051) hx hb dL_law_1044 dL_law_1047 dL_law_1048 dL_law_1051 (by decide) (by decide) ?_
      refine lv_cst (y := bI (sx (B i9) (nI k) z)) (sx_be _ z rfl) ?_
      refine lv_istore (lv' := [(27, .int (bI (sx (B i9) (nI k) z))), (26, .int (nI i9)), (25, .int (nI (ct (sC B L (nI k) z ((spx (fun j => zz (upd U nc (nI k)) (updB Z nc z) (nc + 1) j) (pw tc)).1)) i9))), (24, .int ch), (23, .int (nI (ct (sC B L (nI k) z ((spx (fun j => zz (upd U nc (nI k)) (updB Z nc z) (nc + 1) j) (pw tc)).1)) ac))), (22, .int (bI z)), (21, .int (nI (mt U Z nc (pw tc) (nI k)))), (20, .int (nI k)), (18, .ref a18), (17, .ref a17), (16, .ref a16), (14, .int (nI ac)), (10, .int (nI (ct (fun k => zz U Z nc k) (pw tc)))), (5, .long (dgX tc nc ac ch U Z B L F)), (4, .int x), (3, .int (nI i)), (2, .ref (r 0)), (1, .ref (q 0)), (0, .ref b)]) hx hb dL_law_1052 hl (by decide) rfl (fun ls hl => ?_)
      have hmB : mrg (sB B L (nI k) z ((spx (fun j => zz (upd U nc (nI k)) (updB Z nc z) (nc + 1) j) (pw tc)).1)) B ac i9 = sB B L (nI k) z ((spx (fun j => zz (upd U nc (nI k)) (updB Z nc z) (nc + 1) j) (pw tc)).1) i9 := mrg_lt hlt9
      have hmL : mrg (sL B L F (nI k) z ((spx (fun j => zz (upd U nc (nI k)) (updB Z nc z) (nc + 1) j) (pw tc)).1)) L ac i9 = sL B L F (nI k) z ((spx (fun j => zz (upd U nc (nI k)) (updB Z nc z) (nc + 1) j) (pw tc)).1) i9 := mrg_lt hlt9
      obtain ⟨k9, hk9, hB9⟩ := hB1 i9
      refine lv_aload_n hx hb dL_law_1054 rfl (lv_at hl 17 rfl) ?_
      refine lv_iload hx hb dL_law_1055 (lv_at hl 1 rfl) ?_
      refine pcV_i (As := [.int (nI i9)]) (rest := []) ⟨hx, hb, hml, hown, hts⟩ (g_X_blamedBy l hPX htc hnc1 hac (t := i9) hlt9) (cwV 1 hts gL_law_X0_blamedBy rfl rfl rfl hdX0_blamedBy ⟨Nat.le_of_ble_eq_true rfl, Nat.le_of_ble_eq_true rfl⟩) (va_recv hKX hPX (ci := 0) (q0 := 0) rfl rfl) hKX rfl hl.1 (Nat.le_of_ble_eq_true rfl) rfl dL_law_1057 ⟨by show cells + 300 ≤ 600172; omega, by show slots + 66000 ≤ 7300668; omega⟩ ?_
      refine lv_aload hx hb dL_law_1060 (lv_at hl 10 rfl) ?_
      refine lv_iload hx hb dL_law_1062 (lv_at hl 1 rfl) ?_
      refine ia_ld hx hb hK hPT 0 0 rfl rfl (j := i9) (hlt9) (by omega) dL_law_1064 ?_
      refine lv_icmp_eq (tgt := 1108) hx hb dL_law_1065 (by decide) (fun c1065 => ?_) (fun c1065 => ?_)
      · have heq : sB B L (nI k) z ((spx (fun j => zz (upd U nc (nI k)) (updB Z nc z) (nc + 1) j) (pw tc)).1) i9 = B i9 := hmB.symm.trans c1065
        refine lv_aload_n hx hb dL_law_1108 rfl (lv_at hl 17 rfl) ?_
        refine lv_iload hx hb dL_law_1109 (lv_at hl 1 rfl) ?_
        refine pcV_i (As := [.int (nI i9)]) (rest := []) ⟨hx, hb, hml, hown, hts⟩ (g_X_unexplainedBy l hPX htc hnc1 hac (t := i9) (k := k9) hlt9 (by omega) hB9) (cwV 1 hts gL_law_X0_unexplainedBy rfl rfl rfl hdX0_unexplainedBy ⟨Nat.le_of_ble_eq_true rfl, Nat.le_of_ble_eq_true rfl⟩) (va_recv hKX hPX (ci := 0) (q0 := 0) rfl rfl) hKX rfl hl.1 (Nat.le_of_ble_eq_true rfl) rfl dL_law_1111 ⟨by show cells + 300 ≤ 600172; omega, by show slots + 66000 ≤ 7300668; omega⟩ ?_
        refine lv_aload hx hb dL_law_1114 (lv_at hl 8 rfl) ?_
        refine lv_iload hx hb dL_law_1116 (lv_at hl 1 rfl) ?_
        refine ia_ld hx hb hK hPT 2 0 rfl rfl (j := i9) (hlt9) (by omega) dL_law_1118 ?_
        refine lv_iload hx hb dL_law_1119 (lv_at hl 0 rfl) ?_
        refine lv_nb (t0 := 1128) hx hb dL_law_1121 dL_law_1124 dL_law_1125 dL_law_1128 (by decide) (by decide) ?_
        refine lv_iadd hx hb dL_law_1129 ?_
        refine lv_icmp_ne (tgt := 1166) hx hb dL_law_1130 (by decide) (fun c1130 => absurd (by rw [c1065]; exact ch_u2) c1130) (fun c1130 => ?_)
        refine lv_aload_n hx hb dL_law_1133 rfl (lv_at hl 17 rfl) ?_
        refine lv_iload hx hb dL_law_1134 (lv_at hl 1 rfl) ?_
        refine pcV_i (As := [.int (nI i9)]) (rest := []) ⟨hx, hb, hml, hown, hts⟩ (g_X_stubbornnessOf l hPX htc hnc1 hac (t := i9) hlt9) (cwV 1 hts gL_law_X0_stubbornnessOf rfl rfl rfl hdX0_stubbornnessOf ⟨Nat.le_of_ble_eq_true rfl, Nat.le_of_ble_eq_true rfl⟩) (va_recv hKX hPX (ci := 0) (q0 := 0) rfl rfl) hKX rfl hl.1 (Nat.le_of_ble_eq_true rfl) rfl dL_law_1136 ⟨by show cells + 300 ≤ 600172; omega, by show slots + 66000 ≤ 7300668; omega⟩ ?_
        refine lv_iload hx hb dL_law_1139 (lv_at hl 0 rfl) ?_
        refine lv_ifb_eq (tgt := 1152) hx hb dL_law_1141 (by decide) (fun c1141 => ?_) (fun c1141 => ?_)
        · skip
          refine lv_iconst (v := 0) hx hb dL_law_1152 (by decide) ?_
          refine lv_aload hx hb dL_law_1153 (lv_at hl 9 rfl) ?_
          refine lv_iload hx hb dL_law_1155 (lv_at hl 1 rfl) ?_
          refine ia_ld hx hb hK hPT 1 0 rfl rfl (j := i9) (hlt9) (by omega) dL_law_1157 ?_
          refine lv_iconst (v := 1) hx hb dL_law_1158 (by decide) ?_
          refine lv_isub hx hb dL_law_1159 ?_
          refine va_mmax hx hb (by rw [hml]; exact hl.1.symm) hown (hts (.methodLink RL 150 Lib.Math.max.name) (List.mem_of_getElem? (i := 4) rfl)) (hts (.static Lib.Math.max.name) (List.mem_of_getElem? (i := 5) rfl)) (hts (.initialized "java/lang/Math") (List.mem_of_getElem? (i := 6) rfl)) (hts (.code Lib.Math.max.name Lib.Math.max.code 2 (some .int)) (List.mem_of_getElem? (i := 7) rfl)) (Nat.le_of_ble_eq_true rfl) (Nat.le_of_ble_eq_true rfl) (by show _ ≤ 600172; omega) (by show _ ≤ 7300668; omega) dL_law_1160 ?_
          refine lv_ieq (tgt := 1168) hx hb (hmL.trans (ch_l0 h40 htc (hL9 i9) c1141 heq)) dL_law_1163 (by decide) ?_
          refine lv_iinc (v := nI (i9 + 1)) (lv' := [(26, .int (nI (i9 + 1))), (27, .int (bI (sx (B i9) (nI k) z))), (25, .int (nI (ct (sC B L (nI k) z ((spx (fun j => zz (upd U nc (nI k)) (updB Z nc z) (nc + 1) j) (pw tc)).1)) i9))), (24, .int ch), (23, .int (nI (ct (sC B L (nI k) z ((spx (fun j => zz (upd U nc (nI k)) (updB Z nc z) (nc + 1) j) (pw tc)).1)) ac))), (22, .int (bI z)), (21, .int (nI (mt U Z nc (pw tc) (nI k)))), (20, .int (nI k)), (18, .ref a18), (17, .ref a17), (16, .ref a16), (14, .int (nI ac)), (10, .int (nI (ct (fun k => zz U Z nc k) (pw tc)))), (5, .long (dgX tc nc ac ch U Z B L F)), (4, .int x), (3, .int (nI i)), (2, .ref (r 0)), (1, .ref (q 0)), (0, .ref b)]) hx hb dL_law_1168 hl (k := 1) rfl (nI_1 _) (by decide) rfl (fun ls hl => ?_)
          refine lv_goto (tgt := 1019) hx hb dL_law_1171 (by decide) ?_
          have e25 : (nI (ct (sC B L (nI k) z ((spx (fun j => zz (upd U nc (nI k)) (updB Z nc z) (nc + 1) j) (pw tc)).1)) i9)) = nI (ct (sC B L (nI k) z ((spx (fun j => zz (upd U nc (nI k)) (updB Z nc z) (nc + 1) j) (pw tc)).1)) (i9 + 1)) := by first | exact ct_t1 (ch_t hne) | exact ct_f (ch_s h40 htc heq)
          have hl := lv_sub (l' := [(26, .int (nI (i9 + 1))), (25, .int (nI (ct (sC B L (nI k) z ((spx (fun j => zz (upd U nc (nI k)) (updB Z nc z) (nc + 1) j) (pw tc)).1)) i9))), (24, .int ch), (23, .int (nI (ct (sC B L (nI k) z ((spx (fun j => zz (upd U nc (nI k)) (updB Z nc z) (nc + 1) j) (pw tc)).1)) ac))), (22, .int (bI z)), (21, .int (nI (mt U Z nc (pw tc) (nI k)))), (20, .int (nI k)), (18, .ref a18), (17, .ref a17), (16, .ref a16), (14, .int (nI ac)), (10, .int (nI (ct (fun k => zz U Z nc k) (pw tc)))), (5, .long (dgX tc nc ac ch U Z B L F)), (4, .int x), (3, .int (nI i)), (2, .ref (r 0)), (1, .ref (q 0)), (0, .ref b)]) hl [0, 2, 3, 4, 5, 6, 7, 8, 9, 10, 11, 12, 13, 14, 15, 16, 17, 18] rfl
          rw [e25] at hl
          exact ih9 ls hlt9 trivial hl
        · skip
          refine lv_aload hx hb dL_law_1144 (lv_at hl 9 rfl) ?_
          refine lv_iload hx hb dL_law_1146 (lv_at hl 1 rfl) ?_
          refine ia_ld hx hb hK hPT 1 0 rfl rfl (j := i9) (hlt9) (by omega) dL_law_1148 ?_
          refine lv_goto (tgt := 1163) hx hb dL_law_1149 (by decide) ?_
          refine lv_ieq (tgt := 1168) hx hb (hmL.trans (ch_l1 c1141)) dL_law_1163 (by decide) ?_
          refine lv_iinc (v := nI (i9 + 1)) (lv' := [(26, .int (nI (i9 + 1))), (27, .int (bI (sx (B i9) (nI k) z))), (25, .int (nI (ct (sC B L (nI k) z ((spx (fun j => zz (upd U nc (nI k)) (updB Z nc z) (nc + 1) j) (pw tc)).1)) i9))), (24, .int ch), (23, .int (nI (ct (sC B L (nI k) z ((spx (fun j => zz (upd U nc (nI k)) (updB Z nc z) (nc + 1) j) (pw tc)).1)) ac))), (22, .int (bI z)), (21, .int (nI (mt U Z nc (pw tc) (nI k)))), (20, .int (nI k)), (18, .ref a18), (17, .ref a17), (16, .ref a16), (14, .int (nI ac)), (10, .int (nI (ct (fun k => zz U Z nc k) (pw tc)))), (5, .long (dgX tc nc ac ch U Z B L F)), (4, .int x), (3, .int (nI i)), (2, .ref (r 0)), (1, .ref (q 0)), (0, .ref b)]) hx hb dL_law_1168 hl (k := 1) rfl (nI_1 _) (by decide) rfl (fun ls hl => ?_)
          refine lv_goto (tgt := 1019) hx hb dL_law_1171 (by decide) ?_
          have e25 : (nI (ct (sC B L (nI k) z ((spx (fun j => zz (upd U nc (nI k)) (updB Z nc z) (nc + 1) j) (pw tc)).1)) i9)) = nI (ct (sC B L (nI k) z ((spx (fun j => zz (upd U nc (nI k)) (updB Z nc z) (nc + 1) j) (pw tc)).1)) (i9 + 1)) := by first | exact ct_t1 (ch_t hne) | exact ct_f (ch_s h40 htc heq)
          have hl := lv_sub (l' := [(26, .int (nI (i9 + 1))), (25, .int (nI (ct (sC B L (nI k) z ((spx (fun j => zz (upd U nc (nI k)) (updB Z nc z) (nc + 1) j) (pw tc)).1)) i9))), (24, .int ch), (23, .int (nI (ct (sC B L (nI k) z ((spx (fun j => zz (upd U nc (nI k)) (updB Z nc z) (nc + 1) j) (pw tc)).1)) ac))), (22, .int (bI z)), (21, .int (nI (mt U Z nc (pw tc) (nI k)))), (20, .int (nI k)), (18, .ref a18), (17, .ref a17), (16, .ref a16), (14, .int (nI ac)), (10, .int (nI (ct (fun k => zz U Z nc k) (pw tc)))), (5, .long (dgX tc nc ac ch U Z B L F)), (4, .int x), (3, .int (nI i)), (2, .ref (r 0)), (1, .ref (q 0)), (0, .ref b)]) hl [0, 2, 3, 4, 5, 6, 7, 8, 9, 10, 11, 12, 13, 14, 15, 16, 17, 18] rfl
          rw [e25] at hl
          exact ih9 ls hlt9 trivial hl
      · have hne : ¬ sB B L (nI k) z ((spx (fun j => zz (upd U nc (nI k)) (updB Z nc z) (nc + 1) j) (pw tc)).1) i9 = B i9 := fun w => c1065 (hmB.trans w)
        have hch := ch_a hne
        refine lv_iinc (v := nI ((ct (sC B L (nI k) z ((spx (fun j => zz (upd U nc (nI k)) (updB Z nc z) (nc + 1) j) (pw tc)).1)) i9) + 1)) (lv' := [(25, .int (nI ((ct (sC B L (nI k) z ((spx (fun j => zz (upd U nc (nI k)) (updB Z nc z) (nc + 1) j) (pw tc)).1)) i9) + 1))), (27, .int (bI (sx (B i9) (nI k) z))), (26, .int (nI i9)), (24, .int ch), (23, .int (nI (ct (sC B L (nI k) z ((spx (fun j => zz (upd U nc (nI k)) (updB Z nc z) (nc + 1) j) (pw tc)).1)) ac))), (22, .int (bI z)), (21, .int (nI (mt U Z nc (pw tc) (nI k)))), (20, .int (nI k)), (18, .ref a18), (17, .ref a17), (16, .ref a16), (14, .int (nI ac)), (10, .int (nI (ct (fun k => zz U Z nc k) (pw tc)))), (5, .long (dgX tc nc ac ch U Z B L F)), (4, .int x), (3, .int (nI i)), (2, .ref (r 0)), (1, .ref (q 0)), (0, .ref b)]) hx hb dL_law_1068 hl (k := 2) rfl (nI_1 _) (by decide) rfl (fun ls hl => ?_)
        refine lv_iload hx hb dL_law_1071 (lv_at hl 1 rfl) ?_
        refine lv_ifb_ne (tgt := 1106) hx hb dL_law_1073 (by decide) (fun c1073 => by rw [hch.1] at c1073; cases c1073) (fun c1073 => ?_)
        refine lv_aload hx hb dL_law_1076 (lv_at hl 9 rfl) ?_
        refine lv_iload hx hb dL_law_1078 (lv_at hl 2 rfl) ?_
        refine ia_ld hx hb hK hPT 1 0 rfl rfl (j := i9) (hlt9) (by omega) dL_law_1080 ?_
        refine lv_if_gt (tgt := 1106) hx hb dL_law_1081 (by decide) (fun c1081 => absurd hch.2.1 (Int32.not_le.mpr c1081)) (fun c1081 => ?_)
        refine lv_aload_n hx hb dL_law_1084 rfl (lv_at hl 17 rfl) ?_
        refine lv_iload hx hb dL_law_1085 (lv_at hl 2 rfl) ?_
        refine pcV_i (As := [.int (nI i9)]) (rest := []) ⟨hx, hb, hml, hown, hts⟩ (g_X_blamedBy l hPX htc hnc1 hac (t := i9) hlt9) (cwV 1 hts gL_law_X0_blamedBy rfl rfl rfl hdX0_blamedBy ⟨Nat.le_of_ble_eq_true rfl, Nat.le_of_ble_eq_true rfl⟩) (va_recv hKX hPX (ci := 0) (q0 := 0) rfl rfl) hKX rfl hl.1 (Nat.le_of_ble_eq_true rfl) rfl dL_law_1087 ⟨by show cells + 300 ≤ 600172; omega, by show slots + 66000 ≤ 7300668; omega⟩ ?_
        refine lv_aload_n hx hb dL_law_1090 rfl (lv_at hl 17 rfl) ?_
        refine pcV_i (As := []) (rest := [.int (mrg (sB B L (nI k) z ((spx (fun j => zz (upd U nc (nI k)) (updB Z nc z) (nc + 1) j) (pw tc)).1)) B ac i9)]) ⟨hx, hb, hml, hown, hts⟩ (g_X_simplest l hPX htc hnc1 hac) (cwV 0 hts gL_law_X0_simplest rfl rfl rfl hdX0_simplest ⟨Nat.le_of_ble_eq_true rfl, Nat.le_of_ble_eq_true rfl⟩) (va_recv hKX hPX (ci := 0) (q0 := 0) rfl rfl) hKX rfl hl.1 (Nat.le_of_ble_eq_true rfl) rfl dL_law_1091 ⟨by show cells + 300 ≤ 600172; omega, by show slots + 66000 ≤ 7300668; omega⟩ ?_
        refine lv_icmp_ne (tgt := 1106) hx hb dL_law_1094 (by decide) (fun c1094 => absurd (hmB.trans hch.2.2.2) c1094) (fun c1094 => ?_)
        refine lv_aload_n hx hb dL_law_1097 rfl (lv_at hl 17 rfl) ?_
        refine lv_iload hx hb dL_law_1098 (lv_at hl 2 rfl) ?_
        refine pcV_i (As := [.int (nI i9)]) (rest := []) ⟨hx, hb, hml, hown, hts⟩ (g_X_unexplainedBy l hPX htc hnc1 hac (t := i9) (k := k9) hlt9 (by omega) hB9) (cwV 1 hts gL_law_X0_unexplainedBy rfl rfl rfl hdX0_unexplainedBy ⟨Nat.le_of_ble_eq_true rfl, Nat.le_of_ble_eq_true rfl⟩) (va_recv hKX hPX (ci := 0) (q0 := 0) rfl rfl) hKX rfl hl.1 (Nat.le_of_ble_eq_true rfl) rfl dL_law_1100 ⟨by show cells + 300 ≤ 600172; omega, by show slots + 66000 ≤ 7300668; omega⟩ ?_
        refine lv_if_eq (tgt := 1168) hx hb dL_law_1103 (by decide) (fun c1103 => ?_) (fun c1103 => absurd (by rw [hmB]; exact ch_un h40 htc hne) c1103)
        refine lv_iinc (v := nI (i9 + 1)) (lv' := [(26, .int (nI (i9 + 1))), (25, .int (nI ((ct (sC B L (nI k) z ((spx (fun j => zz (upd U nc (nI k)) (updB Z nc z) (nc + 1) j) (pw tc)).1)) i9) + 1))), (27, .int (bI (sx (B i9) (nI k) z))), (24, .int ch), (23, .int (nI (ct (sC B L (nI k) z ((spx (fun j => zz (upd U nc (nI k)) (updB Z nc z) (nc + 1) j) (pw tc)).1)) ac))), (22, .int (bI z)), (21, .int (nI (mt U Z nc (pw tc) (nI k)))), (20, .int (nI k)), (18, .ref a18), (17, .ref a17), (16, .ref a16), (14, .int (nI ac)), (10, .int (nI (ct (fun k => zz U Z nc k) (pw tc)))), (5, .long (dgX tc nc ac ch U Z B L F)), (4, .int x), (3, .int (nI i)), (2, .ref (r 0)), (1, .ref (q 0)), (0, .ref b)]) hx hb dL_law_1168 hl (k := 2) rfl (nI_1 _) (by decide) rfl (fun ls hl => ?_)
        refine lv_goto (tgt := 1019) hx hb dL_law_1171 (by decide) ?_
        have e25 : (nI ((ct (sC B L (nI k) z ((spx (fun j => zz (upd U nc (nI k)) (updB Z nc z) (nc + 1) j) (pw tc)).1)) i9) + 1)) = nI (ct (sC B L (nI k) z ((spx (fun j => zz (upd U nc (nI k)) (updB Z nc z) (nc + 1) j) (pw tc)).1)) (i9 + 1)) := by first | exact ct_t1 (ch_t hne) | exact ct_f (ch_s h40 htc heq)
        have hl := lv_sub (l' := [(26, .int (nI (i9 + 1))), (25, .int (nI ((ct (sC B L (nI k) z ((spx (fun j => zz (upd U nc (nI k)) (updB Z nc z) (nc + 1) j) (pw tc)).1)) i9) + 1))), (24, .int ch), (23, .int (nI (ct (sC B L (nI k) z ((spx (fun j => zz (upd U nc (nI k)) (updB Z nc z) (nc + 1) j) (pw tc)).1)) ac))), (22, .int (bI z)), (21, .int (nI (mt U Z nc (pw tc) (nI k)))), (20, .int (nI k)), (18, .ref a18), (17, .ref a17), (16, .ref a16), (14, .int (nI ac)), (10, .int (nI (ct (fun k => zz U Z nc k) (pw tc)))), (5, .long (dgX tc nc ac ch U Z B L F)), (4, .int x), (3, .int (nI i)), (2, .ref (r 0)), (1, .ref (q 0)), (0, .ref b)]) hl [0, 1, 3, 4, 5, 6, 7, 8, 9, 10, 11, 12, 13, 14, 15, 16, 17, 18] rfl
        rw [e25] at hl
        exact ih9 ls hlt9 trivial hl
  · refine lv_ifb_eq (tgt := 1003) hx hb dL_law_995 (by decide) (fun c995 => ?_) (fun c995 => ?_)
    · subst c995
      refine lv_iload hx hb dL_law_1003 (lv_at hl 9 rfl) ?_
      refine lv_iload hx hb dL_law_1005 (lv_at hl 3 rfl) ?_
      refine lv_isub hx hb dL_law_1007 ?_
      refine lv_ieq (tgt := 1013) hx hb (ex_f h40 k (pw tc)) dL_law_1008 (by decide) ?_
      exact K ()
    · subst c995
      refine lv_iload hx hb dL_law_998 (lv_at hl 3 rfl) ?_
      refine lv_goto (tgt := 1008) hx hb dL_law_1000 (by decide) ?_
      refine lv_ieq (tgt := 1013) hx hb (ex_t h40 k (pw tc)) dL_law_1008 (by decide) ?_
      exact K ()
