/-! the law: sets by things, votes -/
set_option maxHeartbeats 8000000 in
set_option maxRecDepth 100000 in
theorem sg_3 (l : Launch) {p : Program} {e : Env} {s : State} {m : MethodId} {below : List Frame} {meth : Method} {c : Code} {b N : Nat} {xs : Nat → Int32} {D : va_G} {cI cZ cR : ClassId} {q : Nat → Nat} {Q : State → Prop} {H : Heap} {locs : List Loc} {ls : Array Slot} {cells slots cE sE i : Nat} {x : Int32} {a13 : Nat} {r nr ar : Nat → Nat} {tc nc ac : Nat} {ch : Int32} {U : Nat → Int32} {Z : Nat → Bool} {B L F : Nat → Int32} (C : LC l p s m c b N xs D cI cZ cR) (hG : Gd tc nc ac U B L F) (hS : va_S (lA s) s.heap H locs) (hP : va_P D vwCl ((wX cI cZ q tc nc ac ch U Z B L F ++ wS cI cR r nr ar tc nc ac ch U Z B L F) ++ [(a13, .inl (cI, tc, .inl (fun t => nI (ct (fun k => zz U Z nc k && ho (nI k) (nI t)) (pw tc)))))]) H) (hD : va_D (lA s) ((wX cI cZ q tc nc ac ch U Z B L F ++ wS cI cR r nr ar tc nc ac ch U Z B L F) ++ [(a13, .inl (cI, tc, .inl (fun t => nI (ct (fun k => zz U Z nc k && ho (nI k) (nI t)) (pw tc)))))])) (hl : lv_has ls 28 [(13, .ref a13), (10, .int (nI (ct (fun k => zz U Z nc k) (pw tc)))), (9, .int (suX U Z nc tc)), (8, .int ((spx (fun k => zz U Z nc k) (pw tc)).1)), (7, .int (nI tc)), (5, .long (dgX tc nc ac ch U Z B L F)), (4, .int x), (3, .int (nI i)), (2, .ref (r 0)), (1, .ref (q 0)), (0, .ref b)]) (hcl : cells + 2100 ≤ 600172) (hsl : slots + 301000 ≤ 7300668) (hcE : cells + 500 ≤ cE) (hsE : slots + 69000 ≤ sE) (KN : ∀ (H : Heap) (locs : List Loc) (ls : Array Slot), XS D cI cZ cR q (r 0) (lA s) H → va_S (lA s) s.heap H locs → lv_has ls 28 [(3, .int (nI i)), (2, .ref (r 0)), (1, .ref (q 0)), (0, .ref b)] → W p l e room_1 s m #[Value.ref b] below meth c H locs cE sE Q (F0 m 1183 ls [])) : W p l e room_1 s m #[Value.ref b] below meth c H locs cells slots Q (F0 m 478 ls []) := by
  obtain ⟨hx, hb, hml, hown, hts, hX, hbl, hN, hKL, hov, hnst⟩ := id C
  obtain ⟨⟨htc1, htc⟩, hnc, hac, hU, hB, hL9, hF9⟩ := id hG
  have hpw := pw_in htc
  have hpw2 : 2 ≤ pw tc := pw_mono htc1
  have hK : va_K D vwCl (tyS cI cR) s := hKL.sub [0, 2] rfl
  have hKX : va_K D vwCl (tyA cI cZ) s := hKL.sub [0, 1] rfl
  have hA : ∀ z : Nat, s.heap.size ≤ z → lA s z := fun _ h => h
  have hPX : va_P D vwCl (wX cI cZ q tc nc ac ch U Z B L F) H := P_l (P_l hP)
  have hPS : va_P D vwCl (wS cI cR r nr ar tc nc ac ch U Z B L F) H := P_r (P_l hP)
  have hPT : va_P D vwCl [(a13, .inl (cI, tc, .inl (fun t => nI (ct (fun k => zz U Z nc k && ho (nI k) (nI t)) (pw tc)))))] H := P_r hP
  refine lv_iconst (v := 0) hx hb dL_law_478 (by decide) ?_
  refine lv_istore (lv' := [(14, .int 0), (13, .ref a13), (10, .int (nI (ct (fun k => zz U Z nc k) (pw tc)))), (9, .int (suX U Z nc tc)), (8, .int ((spx (fun k => zz U Z nc k) (pw tc)).1)), (7, .int (nI tc)), (5, .long (dgX tc nc ac ch U Z B L F)), (4, .int x), (3, .int (nI i)), (2, .ref (r 0)), (1, .ref (q 0)), (0, .ref b)]) hx hb dL_law_479 hl (by decide) rfl (fun ls hl => ?_)
  refine w_loop (N := tc) (T := fun i9 => [(14, .int (nI i9)), (13, .ref a13), (10, .int (nI (ct (fun k => zz U Z nc k) (pw tc)))), (9, .int (suX U Z nc tc)), (8, .int ((spx (fun k => zz U Z nc k) (pw tc)).1)), (7, .int (nI tc)), (5, .long (dgX tc nc ac ch U Z B L F)), (4, .int x), (3, .int (nI i)), (2, .ref (r 0)), (1, .ref (q 0)), (0, .ref b)]) (I := fun _ => True) 0 (Nat.zero_le _) trivial (lv_sub hl [0, 1, 2, 3, 4, 5, 6, 7, 8, 9, 10, 11] rfl) (fun i9 ls hi9 hI9 hl ih9 => ?_)
  have hl : lv_has ls 28 [(14, .int (nI i9)), (13, .ref a13), (10, .int (nI (ct (fun k => zz U Z nc k) (pw tc)))), (9, .int (suX U Z nc tc)), (8, .int ((spx (fun k => zz U Z nc k) (pw tc)).1)), (7, .int (nI tc)), (5, .long (dgX tc nc ac ch U Z B L F)), (4, .int x), (3, .int (nI i)), (2, .ref (r 0)), (1, .ref (q 0)), (0, .ref b)] := hl
  refine lv_iload hx hb dL_law_481 (lv_at hl 0 rfl) ?_
  refine lv_iload hx hb dL_law_483 (lv_at hl 5 rfl) ?_
  refine lv_icmp_ge (tgt := 540) hx hb dL_law_485 (by decide) (fun c485 => ?_) (fun c485 => ?_)
  · skip
    have hie9 : i9 = tc := gd_ge_t (by omega) hi9 c485
    rw [hie9] at hl
    refine lv_aload_n hx hb dL_law_540 rfl (lv_at hl 10 rfl) ?_
    refine pcV_i (As := []) (rest := []) ⟨hx, hb, hml, hown, hts⟩ (g_X_astronomers l hPX htc hnc hac) (cwV 0 hts gL_law_X0_astronomers rfl rfl rfl hdX0_astronomers ⟨Nat.le_of_ble_eq_true rfl, Nat.le_of_ble_eq_true rfl⟩) (va_recv hKX hPX (ci := 0) (q0 := 0) rfl rfl) hKX rfl hl.1 (Nat.le_of_ble_eq_true rfl) rfl dL_law_541 ⟨by show cells ≤ 600172; omega, by show slots ≤ 7300668; omega⟩ ?_
    refine lv_istore (lv' := [(14, .int (nI ac)), (13, .ref a13), (10, .int (nI (ct (fun k => zz U Z nc k) (pw tc)))), (9, .int (suX U Z nc tc)), (8, .int ((spx (fun k => zz U Z nc k) (pw tc)).1)), (7, .int (nI tc)), (5, .long (dgX tc nc ac ch U Z B L F)), (4, .int x), (3, .int (nI i)), (2, .ref (r 0)), (1, .ref (q 0)), (0, .ref b)]) hx hb dL_law_544 hl (by decide) rfl (fun ls hl => ?_)
    refine lv_iconst (v := 0) hx hb dL_law_546 (by decide) ?_
    refine lv_istore (lv' := [(15, .int 0), (14, .int (nI ac)), (13, .ref a13), (10, .int (nI (ct (fun k => zz U Z nc k) (pw tc)))), (9, .int (suX U Z nc tc)), (8, .int ((spx (fun k => zz U Z nc k) (pw tc)).1)), (7, .int (nI tc)), (5, .long (dgX tc nc ac ch U Z B L F)), (4, .int x), (3, .int (nI i)), (2, .ref (r 0)), (1, .ref (q 0)), (0, .ref b)]) hx hb dL_law_547 hl (by decide) rfl (fun ls hl => ?_)
    refine lv_iconst (v := 0) hx hb dL_law_549 (by decide) ?_
    refine lv_istore (lv' := [(16, .int 0), (15, .int 0), (14, .int (nI ac)), (13, .ref a13), (10, .int (nI (ct (fun k => zz U Z nc k) (pw tc)))), (9, .int (suX U Z nc tc)), (8, .int ((spx (fun k => zz U Z nc k) (pw tc)).1)), (7, .int (nI tc)), (5, .long (dgX tc nc ac ch U Z B L F)), (4, .int x), (3, .int (nI i)), (2, .ref (r 0)), (1, .ref (q 0)), (0, .ref b)]) hx hb dL_law_550 hl (by decide) rfl (fun ls hl => ?_)
    refine w_loop (N := tc) (T := fun i9 => [(16, .int (nI i9)), (15, .int 0), (14, .int (nI ac)), (13, .ref a13), (10, .int (nI (ct (fun k => zz U Z nc k) (pw tc)))), (9, .int (suX U Z nc tc)), (8, .int ((spx (fun k => zz U Z nc k) (pw tc)).1)), (7, .int (nI tc)), (5, .long (dgX tc nc ac ch U Z B L F)), (4, .int x), (3, .int (nI i)), (2, .ref (r 0)), (1, .ref (q 0)), (0, .ref b)]) (I := fun _ => True) 0 (Nat.zero_le _) trivial (lv_sub hl [0, 1, 2, 3, 4, 5, 6, 7, 8, 9, 10, 11, 12, 13] rfl) (fun i9 ls hi9 hI9 hl ih9 => ?_)
    have hl : lv_has ls 28 [(16, .int (nI i9)), (15, .int 0), (14, .int (nI ac)), (13, .ref a13), (10, .int (nI (ct (fun k => zz U Z nc k) (pw tc)))), (9, .int (suX U Z nc tc)), (8, .int ((spx (fun k => zz U Z nc k) (pw tc)).1)), (7, .int (nI tc)), (5, .long (dgX tc nc ac ch U Z B L F)), (4, .int x), (3, .int (nI i)), (2, .ref (r 0)), (1, .ref (q 0)), (0, .ref b)] := hl
    refine lv_iload hx hb dL_law_552 (lv_at hl 0 rfl) ?_
    refine lv_iload hx hb dL_law_554 (lv_at hl 7 rfl) ?_
    refine lv_icmp_ge (tgt := 639) hx hb dL_law_556 (by decide) (fun c556 => ?_) (fun c556 => ?_)
    · skip
      have hie9 : i9 = tc := gd_ge_t (by omega) hi9 c556
      rw [hie9] at hl
      exact sg_4 l C hG hS (P_l hP) (D_lA hD) (lv_sub hl [1, 2, 4, 7, 8, 9, 10, 11, 12, 13] rfl) (by omega) (by omega) (by omega) (by omega) KN
    · skip
      have hlt9 : i9 < tc := gd_ge_f hi9 c556
      refine lv_iconst (v := 0) hx hb dL_law_559 (by decide) ?_
      refine lv_istore (lv' := [(17, .int 0), (16, .int (nI i9)), (15, .int 0), (14, .int (nI ac)), (13, .ref a13), (10, .int (nI (ct (fun k => zz U Z nc k) (pw tc)))), (9, .int (suX U Z nc tc)), (8, .int ((spx (fun k => zz U Z nc k) (pw tc)).1)), (7, .int (nI tc)), (5, .long (dgX tc nc ac ch U Z B L F)), (4, .int x), (3, .int (nI i)), (2, .ref (r 0)), (1, .ref (q 0)), (0, .ref b)]) hx hb dL_law_560 hl (by decide) rfl (fun ls hl => ?_)
      refine lv_iconst (v := 0) hx hb dL_law_562 (by decide) ?_
      refine lv_istore (lv' := [(18, .int 0), (17, .int 0), (16, .int (nI i9)), (15, .int 0), (14, .int (nI ac)), (13, .ref a13), (10, .int (nI (ct (fun k => zz U Z nc k) (pw tc)))), (9, .int (suX U Z nc tc)), (8, .int ((spx (fun k => zz U Z nc k) (pw tc)).1)), (7, .int (nI tc)), (5, .long (dgX tc nc ac ch U Z B L F)), (4, .int x), (3, .int (nI i)), (2, .ref (r 0)), (1, .ref (q 0)), (0, .ref b)]) hx hb dL_law_563 hl (by decide) rfl (fun ls hl => ?_)
      refine w_loop (N := ac) (T := fun j8 => [(18, .int (nI j8)), (17, .int (nI (ct (fun a => ho (B a) (nI i9)) j8))), (16, .int (nI i9)), (15, .int 0), (14, .int (nI ac)), (13, .ref a13), (10, .int (nI (ct (fun k => zz U Z nc k) (pw tc)))), (9, .int (suX U Z nc tc)), (8, .int ((spx (fun k => zz U Z nc k) (pw tc)).1)), (7, .int (nI tc)), (5, .long (dgX tc nc ac ch U Z B L F)), (4, .int x), (3, .int (nI i)), (2, .ref (r 0)), (1, .ref (q 0)), (0, .ref b)]) (I := fun _ => True) 0 (Nat.zero_le _) trivial (lv_sub hl [0, 1, 2, 3, 4, 5, 6, 7, 8, 9, 10, 11, 12, 13, 14, 15] rfl) (fun j8 ls hi8 hI8 hl ih8 => ?_)
      have hl : lv_has ls 28 [(18, .int (nI j8)), (17, .int (nI (ct (fun a => ho (B a) (nI i9)) j8))), (16, .int (nI i9)), (15, .int 0), (14, .int (nI ac)), (13, .ref a13), (10, .int (nI (ct (fun k => zz U Z nc k) (pw tc)))), (9, .int (suX U Z nc tc)), (8, .int ((spx (fun k => zz U Z nc k) (pw tc)).1)), (7, .int (nI tc)), (5, .long (dgX tc nc ac ch U Z B L F)), (4, .int x), (3, .int (nI i)), (2, .ref (r 0)), (1, .ref (q 0)), (0, .ref b)] := hl
      refine lv_iload hx hb dL_law_565 (lv_at hl 0 rfl) ?_
      refine lv_iload hx hb dL_law_567 (lv_at hl 4 rfl) ?_
      refine lv_icmp_ge (tgt := 594) hx hb dL_law_569 (by decide) (fun c569 => ?_) (fun c569 => ?_)
      · skip
        have hie8 : j8 = ac := gd_ge_t (by omega) hi8 c569
        rw [hie8] at hl
        refine lv_iload hx hb dL_law_594 (lv_at hl 1 rfl) ?_
        refine lv_aload_n hx hb dL_law_596 rfl (lv_at hl 14 rfl) ?_
        refine lv_iload hx hb dL_law_597 (lv_at hl 2 rfl) ?_
        refine pcV_i (As := [.int (nI i9)]) (rest := [.int (nI (ct (fun a => ho (B a) (nI i9)) ac))]) ⟨hx, hb, hml, hown, hts⟩ (g_X_votesFor l hPX htc hnc hac (t := i9) hlt9) (cwV 1 hts gL_law_X0_votesFor rfl rfl rfl hdX0_votesFor ⟨Nat.le_of_ble_eq_true rfl, Nat.le_of_ble_eq_true rfl⟩) (va_recv hKX hPX (ci := 0) (q0 := 0) rfl rfl) hKX rfl hl.1 (Nat.le_of_ble_eq_true rfl) rfl dL_law_599 ⟨by show cells ≤ 600172; omega, by show slots ≤ 7300668; omega⟩ ?_
        refine lv_icmp_ne (tgt := 631) hx hb dL_law_602 (by decide) (fun c602 => absurd rfl c602) (fun c602 => ?_)
        refine lv_aload_n hx hb dL_law_605 rfl (lv_at hl 14 rfl) ?_
        refine pcV_i (As := []) (rest := []) ⟨hx, hb, hml, hown, hts⟩ (g_X_vote l hPX htc hnc hac) (cwV 0 hts gL_law_X0_vote rfl rfl rfl hdX0_vote ⟨Nat.le_of_ble_eq_true rfl, Nat.le_of_ble_eq_true rfl⟩) (va_recv hKX hPX (ci := 0) (q0 := 0) rfl rfl) hKX rfl hl.1 (Nat.le_of_ble_eq_true rfl) rfl dL_law_606 ⟨by show cells ≤ 600172; omega, by show slots ≤ 7300668; omega⟩ ?_
        refine lv_iload hx hb dL_law_609 (lv_at hl 2 rfl) ?_
        refine lv_ishr hx hb dL_law_611 ?_
        refine lv_iconst (v := 1) hx hb dL_law_612 (by decide) ?_
        refine lv_iand hx hb dL_law_613 ?_
        refine lv_cst (y := bI (ho (orf (fun t => decide (¬ nI (ct (fun a => ho (B a) (nI t)) ac) * 2 ≤ nI ac)) (fun t => (1 : Int32) <<< (nI t &&& 31)) tc) (nI i9))) (sh_ho (by omega) _) ?_
        refine lv_iconst (v := 2) hx hb dL_law_614 (by decide) ?_
        refine lv_iload hx hb dL_law_615 (lv_at hl 1 rfl) ?_
        refine lv_imul hx hb dL_law_617 ?_
        refine lv_iload hx hb dL_law_618 (lv_at hl 4 rfl) ?_
        refine lv_bgt (t0 := 627) hx hb dL_law_620 dL_law_623 dL_law_624 dL_law_627 (by decide) (by decide) ?_
        refine lv_ieq (tgt := 633) hx hb (vote_bit htc hlt9) dL_law_628 (by decide) ?_
        refine lv_iinc (v := nI (i9 + 1)) (lv' := [(16, .int (nI (i9 + 1))), (18, .int (nI ac)), (17, .int (nI (ct (fun a => ho (B a) (nI i9)) ac))), (15, .int 0), (14, .int (nI ac)), (13, .ref a13), (10, .int (nI (ct (fun k => zz U Z nc k) (pw tc)))), (9, .int (suX U Z nc tc)), (8, .int ((spx (fun k => zz U Z nc k) (pw tc)).1)), (7, .int (nI tc)), (5, .long (dgX tc nc ac ch U Z B L F)), (4, .int x), (3, .int (nI i)), (2, .ref (r 0)), (1, .ref (q 0)), (0, .ref b)]) hx hb dL_law_633 hl (k := 2) rfl (nI_1 _) (by decide) rfl (fun ls hl => ?_)
        refine lv_goto (tgt := 552) hx hb dL_law_636 (by decide) ?_
        have hl := lv_sub (l' := [(16, .int (nI (i9 + 1))), (15, .int 0), (14, .int (nI ac)), (13, .ref a13), (10, .int (nI (ct (fun k => zz U Z nc k) (pw tc)))), (9, .int (suX U Z nc tc)), (8, .int ((spx (fun k => zz U Z nc k) (pw tc)).1)), (7, .int (nI tc)), (5, .long (dgX tc nc ac ch U Z B L F)), (4, .int x), (3, .int (nI i)), (2, .ref (r 0)), (1, .ref (q 0)), (0, .ref b)]) hl [0, 3, 4, 5, 6, 7, 8, 9, 10, 11, 12, 13, 14, 15] rfl
        exact ih9 ls hlt9 trivial hl
      · skip
        have hlt8 : j8 < ac := gd_ge_f hi8 c569
        refine lv_iload hx hb dL_law_572 (lv_at hl 1 rfl) ?_
        refine lv_aload_n hx hb dL_law_574 rfl (lv_at hl 14 rfl) ?_
        refine lv_iload hx hb dL_law_575 (lv_at hl 0 rfl) ?_
        refine pcV_i (As := [.int (nI j8)]) (rest := [.int (nI (ct (fun a => ho (B a) (nI i9)) j8))]) ⟨hx, hb, hml, hown, hts⟩ (g_X_blamedBy l hPX htc hnc hac (t := j8) hlt8) (cwV 1 hts gL_law_X0_blamedBy rfl rfl rfl hdX0_blamedBy ⟨Nat.le_of_ble_eq_true rfl, Nat.le_of_ble_eq_true rfl⟩) (va_recv hKX hPX (ci := 0) (q0 := 0) rfl rfl) hKX rfl hl.1 (Nat.le_of_ble_eq_true rfl) rfl dL_law_577 ⟨by show cells ≤ 600172; omega, by show slots ≤ 7300668; omega⟩ ?_
        refine lv_iload hx hb dL_law_580 (lv_at hl 2 rfl) ?_
        refine lv_ishr hx hb dL_law_582 ?_
        refine lv_iconst (v := 1) hx hb dL_law_583 (by decide) ?_
        refine lv_iand hx hb dL_law_584 ?_
        refine lv_cst (y := bI (ho (B j8) (nI i9))) (sh_ho (by omega) _) ?_
        refine lv_iadd hx hb dL_law_585 ?_
        refine lv_istore (lv' := [(17, .int ((nI (ct (fun a => ho (B a) (nI i9)) j8)) + (bI (ho (B j8) (nI i9))))), (18, .int (nI j8)), (16, .int (nI i9)), (15, .int 0), (14, .int (nI ac)), (13, .ref a13), (10, .int (nI (ct (fun k => zz U Z nc k) (pw tc)))), (9, .int (suX U Z nc tc)), (8, .int ((spx (fun k => zz U Z nc k) (pw tc)).1)), (7, .int (nI tc)), (5, .long (dgX tc nc ac ch U Z B L F)), (4, .int x), (3, .int (nI i)), (2, .ref (r 0)), (1, .ref (q 0)), (0, .ref b)]) hx hb dL_law_586 hl (by decide) rfl (fun ls hl => ?_)
        refine lv_iinc (v := nI (j8 + 1)) (lv' := [(18, .int (nI (j8 + 1))), (17, .int ((nI (ct (fun a => ho (B a) (nI i9)) j8)) + (bI (ho (B j8) (nI i9))))), (16, .int (nI i9)), (15, .int 0), (14, .int (nI ac)), (13, .ref a13), (10, .int (nI (ct (fun k => zz U Z nc k) (pw tc)))), (9, .int (suX U Z nc tc)), (8, .int ((spx (fun k => zz U Z nc k) (pw tc)).1)), (7, .int (nI tc)), (5, .long (dgX tc nc ac ch U Z B L F)), (4, .int x), (3, .int (nI i)), (2, .ref (r 0)), (1, .ref (q 0)), (0, .ref b)]) hx hb dL_law_588 hl (k := 1) rfl (nI_1 _) (by decide) rfl (fun ls hl => ?_)
        refine lv_goto (tgt := 565) hx hb dL_law_591 (by decide) ?_
        have e17 : ((nI (ct (fun a => ho (B a) (nI i9)) j8)) + (bI (ho (B j8) (nI i9)))) = nI (ct (fun a => ho (B a) (nI i9)) (j8 + 1)) := ct_bI (fun a => ho (B a) (nI i9)) j8
        have hl := lv_sub (l' := [(18, .int (nI (j8 + 1))), (17, .int ((nI (ct (fun a => ho (B a) (nI i9)) j8)) + (bI (ho (B j8) (nI i9))))), (16, .int (nI i9)), (15, .int 0), (14, .int (nI ac)), (13, .ref a13), (10, .int (nI (ct (fun k => zz U Z nc k) (pw tc)))), (9, .int (suX U Z nc tc)), (8, .int ((spx (fun k => zz U Z nc k) (pw tc)).1)), (7, .int (nI tc)), (5, .long (dgX tc nc ac ch U Z B L F)), (4, .int x), (3, .int (nI i)), (2, .ref (r 0)), (1, .ref (q 0)), (0, .ref b)]) hl [0, 1, 2, 3, 4, 5, 6, 7, 8, 9, 10, 11, 12, 13, 14, 15] rfl
        rw [e17] at hl
        exact ih8 ls hlt8 trivial hl
  · skip
    have hlt9 : i9 < tc := gd_ge_f hi9 c485
    refine lv_aload hx hb dL_law_488 (lv_at hl 1 rfl) ?_
    refine lv_iload hx hb dL_law_490 (lv_at hl 0 rfl) ?_
    refine ia_ld hx hb hK hPT 0 0 rfl rfl (j := i9) (hlt9) (by omega) dL_law_492 ?_
    refine lv_aload_n hx hb dL_law_493 rfl (lv_at hl 10 rfl) ?_
    refine lv_iload hx hb dL_law_494 (lv_at hl 0 rfl) ?_
    refine pcV_i (As := [.int (nI i9)]) (rest := [.int (nI (ct (fun k => zz U Z nc k && ho (nI k) (nI i9)) (pw tc)))]) ⟨hx, hb, hml, hown, hts⟩ (g_X_setsWith l hPX htc hnc hac (t := i9) hlt9) (cwV 1 hts gL_law_X0_setsWith rfl rfl rfl hdX0_setsWith ⟨Nat.le_of_ble_eq_true rfl, Nat.le_of_ble_eq_true rfl⟩) (va_recv hKX hPX (ci := 0) (q0 := 0) rfl rfl) hKX rfl hl.1 (Nat.le_of_ble_eq_true rfl) rfl dL_law_496 ⟨by show cells ≤ 600172; omega, by show slots ≤ 7300668; omega⟩ ?_
    refine lv_icmp_ne (tgt := 532) hx hb dL_law_499 (by decide) (fun c499 => absurd (sw_bit i9 (pw tc)) c499) (fun c499 => ?_)
    refine lv_iload hx hb dL_law_502 (lv_at hl 2 rfl) ?_
    refine lv_if_le (tgt := 534) hx hb dL_law_504 (by decide) (fun c504 => ?_) (fun c504 => ?_)
    · skip
      refine lv_iinc (v := nI (i9 + 1)) (lv' := [(14, .int (nI (i9 + 1))), (13, .ref a13), (10, .int (nI (ct (fun k => zz U Z nc k) (pw tc)))), (9, .int (suX U Z nc tc)), (8, .int ((spx (fun k => zz U Z nc k) (pw tc)).1)), (7, .int (nI tc)), (5, .long (dgX tc nc ac ch U Z B L F)), (4, .int x), (3, .int (nI i)), (2, .ref (r 0)), (1, .ref (q 0)), (0, .ref b)]) hx hb dL_law_534 hl (k := 0) rfl (nI_1 _) (by decide) rfl (fun ls hl => ?_)
      refine lv_goto (tgt := 481) hx hb dL_law_537 (by decide) ?_
      have hl := lv_sub (l' := [(14, .int (nI (i9 + 1))), (13, .ref a13), (10, .int (nI (ct (fun k => zz U Z nc k) (pw tc)))), (9, .int (suX U Z nc tc)), (8, .int ((spx (fun k => zz U Z nc k) (pw tc)).1)), (7, .int (nI tc)), (5, .long (dgX tc nc ac ch U Z B L F)), (4, .int x), (3, .int (nI i)), (2, .ref (r 0)), (1, .ref (q 0)), (0, .ref b)]) hl [0, 1, 2, 3, 4, 5, 6, 7, 8, 9, 10, 11] rfl
      exact ih9 ls hlt9 trivial hl
    · skip
      refine lv_iload hx hb dL_law_507 (lv_at hl 3 rfl) ?_
      refine lv_iload hx hb dL_law_509 (lv_at hl 0 rfl) ?_
      refine lv_ishr hx hb dL_law_511 ?_
      refine lv_iconst (v := 1) hx hb dL_law_512 (by decide) ?_
      refine lv_iand hx hb dL_law_513 ?_
      refine lv_cst (y := bI (ho (suX U Z nc tc) (nI i9))) (sh_ho (by omega) _) ?_
      refine lv_aload hx hb dL_law_514 (lv_at hl 1 rfl) ?_
      refine lv_iload hx hb dL_law_516 (lv_at hl 0 rfl) ?_
      refine ia_ld hx hb hK hPT 0 0 rfl rfl (j := i9) (hlt9) (by omega) dL_law_518 ?_
      refine lv_iload hx hb dL_law_519 (lv_at hl 2 rfl) ?_
      refine lv_be (t0 := 528) hx hb dL_law_521 dL_law_524 dL_law_525 dL_law_528 (by decide) (by decide) ?_
      refine lv_ieq (tgt := 534) hx hb (sue_bit hnc htc hlt9 c504) dL_law_529 (by decide) ?_
      refine lv_iinc (v := nI (i9 + 1)) (lv' := [(14, .int (nI (i9 + 1))), (13, .ref a13), (10, .int (nI (ct (fun k => zz U Z nc k) (pw tc)))), (9, .int (suX U Z nc tc)), (8, .int ((spx (fun k => zz U Z nc k) (pw tc)).1)), (7, .int (nI tc)), (5, .long (dgX tc nc ac ch U Z B L F)), (4, .int x), (3, .int (nI i)), (2, .ref (r 0)), (1, .ref (q 0)), (0, .ref b)]) hx hb dL_law_534 hl (k := 0) rfl (nI_1 _) (by decide) rfl (fun ls hl => ?_)
      refine lv_goto (tgt := 481) hx hb dL_law_537 (by decide) ?_
      have hl := lv_sub (l' := [(14, .int (nI (i9 + 1))), (13, .ref a13), (10, .int (nI (ct (fun k => zz U Z nc k) (pw tc)))), (9, .int (suX U Z nc tc)), (8, .int ((spx (fun k => zz U Z nc k) (pw tc)).1)), (7, .int (nI tc)), (5, .long (dgX tc nc ac ch U Z B L F)), (4, .int x), (3, .int (nI i)), (2, .ref (r 0)), (1, .ref (q 0)), (0, .ref b)]) hl [0, 1, 2, 3, 4, 5, 6, 7, 8, 9, 10, 11] rfl
      exact ih9 ls hlt9 trivial hl
