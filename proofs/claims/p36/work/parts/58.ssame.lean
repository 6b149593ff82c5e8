/-! the hand-made quarrel: all is as told -/
theorem zb_t {U : Nat → Int32} {Z : Nat → Bool} {t : Int32} {j : Nat} (h : ho (U j) t = true) : nI (ct (fun j => Z j && ho (U j) t) j) + bI (Z j) = nI (ct (fun j => Z j && ho (U j) t) (j + 1)) := by
  rw [← ct_bI, h, Bool.and_true]
theorem zb_f {U : Nat → Int32} {Z : Nat → Bool} {t : Int32} {j : Nat} (h : ho (U j) t = false) : nI (ct (fun j => Z j && ho (U j) t) j) + 0 = nI (ct (fun j => Z j && ho (U j) t) (j + 1)) := ct_f0 (by rw [h, Bool.and_false])
set_option maxHeartbeats 4000000 in
set_option maxRecDepth 100000 in
theorem w_S_isSame (l : Launch) {D : va_G} {cI cZ cR : ClassId} {q r nr ar : Nat → Nat} {tc nc ac : Nat} {ch : Int32} {U : Nat → Int32} {Z : Nat → Bool} {B L F : Nat → Int32} {H : Heap} (hPX : va_P D vwCl (wX cI cZ q tc nc ac ch U Z B L F) H) (hP : va_P D vwCl (wS cI cR r nr ar tc nc ac ch U Z B L F) H) (htc : tc ≤ 8) (hnc : nc ≤ 40) (hac : ac ≤ 8) (hU : ∀ j, ∃ k, k < pw tc ∧ U j = nI k) (hB : ∀ a, ∃ k, k < pw tc ∧ B a = nI k) : Met l yX1_isSame wsX1_isSame ({ frames := 4, cells := 257, slots := 65536, locals := 96 }) (va_Pc [.ref (r 0), .ref (q 0)] (rd D vwCl [(cI, .int), (cZ, .boolean), (cR, arrO)] H)) (va_Qi (fun r9 (_ : Unit) => r9 = 1) (fun _ _ => True) (fun z : Nat => H.size ≤ z)) 257 65536 (fun z : Nat => H.size ≤ z) := by
  refine Met.ofW (cc := cX1_isSame) (maxL := 15) (ret := (some .boolean)) (by decide) rfl ?_
  intro p e s m args below meth c s₁ B9 hml hv
  obtain ⟨rfl, hH, hKL⟩ := hv
  subst hH
  have hx := B9.exec
  have hb := B9.bytes
  have hr := B9.returns
  have hts := atoms_spec (ws := wsX1_isSame) B9.pre
  have hown : s.vm.findClass RX1 = some m.cls := findClass_of_methodNamed B9.named
  have hlocks := B9.notSynchronized
  have hin : ∀ w ∈ u_ws RX1 TX1 4, w ∈ wsX1_isSame := fun w h => List.mem_cons_of_mem _ (List.mem_append_left _ (List.mem_append_left _ (List.mem_append_right _ h)))
  have hl := lv_entry ([.ref (r 0), .ref (q 0)]) (n := 15) (Nat.le_of_ble_eq_true rfl)
  rw [lg_entry_eq]
  generalize (lg_sl ([.ref (r 0), .ref (q 0)]) ++ List.replicate (15 - (lg_sl ([.ref (r 0), .ref (q 0)])).length) Slot.unset).toArray = ls at hl ⊢
  have hl : lv_has ls 15 [(0, .ref (r 0)), (1, .ref (q 0))] := hl
  have hA : ∀ z : Nat, s.heap.size ≤ z → (fun z : Nat => s.heap.size ≤ z) z := fun _ h => h
  have hS : va_S (fun z : Nat => s.heap.size ≤ z) s.heap s.heap [] := va_S.rf
  have hP0 := hP
  have hD0 : va_D (fun z : Nat => s.heap.size ≤ z) ([] : va_W) := ⟨fun i j x y h => by simp at h, fun k x h => by simp at h⟩
  have hE0 : va_P D vwCl ([] : va_W) s.heap := fun k x h => by simp at h
  have hK : va_K D vwCl (tyS cI cR) s := hKL.sub [0, 2] rfl
  have hKX : va_K D vwCl (tyA cI cZ) s := hKL.sub [0, 1] rfl
  have hpw := pw_in htc
  have hn9 := ct_le (fun k => zz U Z nc k) (pw tc)
  refine lv_aload_n hx hb dX1_isSame_0 rfl (lv_at hl 0 rfl) ?_
  have hF : ∀ z : Nat, s.heap.size ≤ z → (fun z : Nat => s.heap.size ≤ z) z := fun _ h => h
  refine va_callr (va_runV (As := []) (rest := []) ⟨hx, hb, hml, hown, hts⟩ (w_S_explanations l hP htc hnc hac hU) (cwV 0 hts gX1_isSame_X1_explanations rfl rfl rfl hdX1_explanations ⟨Nat.le_of_ble_eq_true rfl, Nat.le_of_ble_eq_true rfl⟩) ⟨rd_blind, (va_recv hK hP (ci := 1) (q0 := 0) rfl rfl), rd_pre hK⟩ rfl rfl hl.1 rfl (lv_room (Nat.le_of_ble_eq_true rfl)) dX1_isSame_1 ⟨Nat.le_of_ble_eq_true rfl, Nat.le_of_ble_eq_true rfl⟩) hS (fun z _ h => hF z h) hF (fun u q2 t9 H locs ht9 hvm9 hw9 hB9 hz1 hk1 hS => ?_)
  obtain ⟨hq2, hE⟩ := hB9
  rw [ht9] at hE
  have hP := grow_P hP (fun z h => hk1 z h (Nat.not_le.mpr h))
  have hPX := grow_P hPX (fun z h => hk1 z h (Nat.not_le.mpr h))
  refine W.widen (k := 257) (n := 65536) (by decide) (by decide) ?_
  clear hP0 hk1
  refine lv_astore_n (lv' := [(2, .ref q2), (0, .ref (r 0)), (1, .ref (q 0))]) hx hb dX1_isSame_4 rfl hl (by decide) rfl (fun ls hl => ?_)
  refine lv_iconst (v := 0) hx hb dX1_isSame_5 (by decide) ?_
  refine lv_istore_n (lv' := [(3, .int 0), (2, .ref q2), (0, .ref (r 0)), (1, .ref (q 0))]) hx hb dX1_isSame_6 rfl hl (by decide) rfl (fun ls hl => ?_)
  refine lv_iconst (v := 0) hx hb dX1_isSame_7 (by decide) ?_
  refine lv_istore (lv' := [(4, .int 0), (3, .int 0), (2, .ref q2), (0, .ref (r 0)), (1, .ref (q 0))]) hx hb dX1_isSame_8 hl (by decide) rfl (fun ls hl => ?_)
  refine w_loop (N := nc) (T := fun i => [(4, .int (nI i)), (3, .int (nI (ct Z i))), (2, .ref q2), (0, .ref (r 0)), (1, .ref (q 0))]) (I := fun _ => True) 0 (Nat.zero_le _) trivial (lv_sub hl [0, 1, 2, 3, 4] rfl) (fun i ls hi hI hl ih => ?_)
  have hl : lv_has ls 15 [(4, .int (nI i)), (3, .int (nI (ct Z i))), (2, .ref q2), (0, .ref (r 0)), (1, .ref (q 0))] := hl
  refine lv_iload hx hb dX1_isSame_10 (lv_at hl 0 rfl) ?_
  refine lv_aload_n hx hb dX1_isSame_12 rfl (lv_at hl 3 rfl) ?_
  refine va_get (D := D) (ci := 1) (v := .ref (r 1)) (C := RX1) (T := TX1) (N := 4) hx hb hts hin hown hK hP 0 rfl rfl 1 (by decide) (hts (.fieldLink RX1 9 "SmudgedStarLaw$Sim" "nights" "[[I") (List.mem_of_getElem? (i := 1) rfl)) (fun _ h9 => h9) rfl dX1_isSame_13 ?_
  refine va_alen (v := nI nc) hx hb hK hP 1 1 rfl rfl rfl dX1_isSame_16 ?_
  refine lv_icmp_ge (tgt := 85) hx hb dX1_isSame_17 (by decide) (fun c17 => ?_) (fun c17 => ?_)
  · skip
    have hie : i = nc := gd_ge_t (by omega) hi c17
    rw [hie] at hl
    refine lv_iconst (v := 0) hx hb dX1_isSame_85 (by decide) ?_
    refine lv_istore (lv' := [(4, .int 0), (3, .int (nI (ct Z nc))), (2, .ref q2), (0, .ref (r 0)), (1, .ref (q 0))]) hx hb dX1_isSame_86 hl (by decide) rfl (fun ls hl => ?_)
    refine lv_aload_n hx hb dX1_isSame_88 rfl (lv_at hl 2 rfl) ?_
    refine va_alen (v := nI (ct (fun k => zz U Z nc k) (pw tc))) hx hb hK hE 0 0 rfl rfl rfl dX1_isSame_89 ?_
    refine lv_m1 (t0 := 97) hx hb dX1_isSame_90 dX1_isSame_93 dX1_isSame_94 dX1_isSame_97 (by decide) (by decide) ?_
    refine lv_cst (y := sur (ct (fun k => zz U Z nc k) (pw tc)) (fun t => decide (nI (ct (fun j => ho (nI (el (fun k => zz U Z nc k) (pw tc) j)) (nI t)) (ct (fun k => zz U Z nc k) (pw tc))) = nI (ct (fun k => zz U Z nc k) (pw tc)))) 0) (sur_b (by omega) _) ?_
    refine lv_istore (lv' := [(5, .int (sur (ct (fun k => zz U Z nc k) (pw tc)) (fun t => decide (nI (ct (fun j => ho (nI (el (fun k => zz U Z nc k) (pw tc) j)) (nI t)) (ct (fun k => zz U Z nc k) (pw tc))) = nI (ct (fun k => zz U Z nc k) (pw tc)))) 0)), (4, .int 0), (3, .int (nI (ct Z nc))), (2, .ref q2), (0, .ref (r 0)), (1, .ref (q 0))]) hx hb dX1_isSame_98 hl (by decide) rfl (fun ls hl => ?_)
    refine lv_iconst (v := 1) hx hb dX1_isSame_100 (by decide) ?_
    refine lv_istore (lv' := [(6, .int 1), (5, .int (sur (ct (fun k => zz U Z nc k) (pw tc)) (fun t => decide (nI (ct (fun j => ho (nI (el (fun k => zz U Z nc k) (pw tc) j)) (nI t)) (ct (fun k => zz U Z nc k) (pw tc))) = nI (ct (fun k => zz U Z nc k) (pw tc)))) 0)), (4, .int 0), (3, .int (nI (ct Z nc))), (2, .ref q2), (0, .ref (r 0)), (1, .ref (q 0))]) hx hb dX1_isSame_101 hl (by decide) rfl (fun ls hl => ?_)
    refine lv_iconst (v := 0) hx hb dX1_isSame_103 (by decide) ?_
    refine lv_istore (lv' := [(7, .int 0), (6, .int 1), (5, .int (sur (ct (fun k => zz U Z nc k) (pw tc)) (fun t => decide (nI (ct (fun j => ho (nI (el (fun k => zz U Z nc k) (pw tc) j)) (nI t)) (ct (fun k => zz U Z nc k) (pw tc))) = nI (ct (fun k => zz U Z nc k) (pw tc)))) 0)), (4, .int 0), (3, .int (nI (ct Z nc))), (2, .ref q2), (0, .ref (r 0)), (1, .ref (q 0))]) hx hb dX1_isSame_104 hl (by decide) rfl (fun ls hl => ?_)
    refine w_loop (N := tc) (T := fun i => [(7, .int (nI i)), (6, .int (nI (pw i))), (5, .int (sur (ct (fun k => zz U Z nc k) (pw tc)) (fun t => decide (nI (ct (fun j => ho (nI (el (fun k => zz U Z nc k) (pw tc) j)) (nI t)) (ct (fun k => zz U Z nc k) (pw tc))) = nI (ct (fun k => zz U Z nc k) (pw tc)))) i)), (4, .int (nI (bs (fun t => decide (¬ nI (ct (fun a => ho (B a) (nI t)) ac) * 2 ≤ nI ac)) i))), (3, .int (nI (ct Z nc))), (2, .ref q2), (0, .ref (r 0)), (1, .ref (q 0))]) (I := fun _ => True) 0 (Nat.zero_le _) trivial (lv_sub hl [0, 1, 2, 3, 4, 5, 6, 7] rfl) (fun i ls hi hI hl ih => ?_)
    have hl : lv_has ls 15 [(7, .int (nI i)), (6, .int (nI (pw i))), (5, .int (sur (ct (fun k => zz U Z nc k) (pw tc)) (fun t => decide (nI (ct (fun j => ho (nI (el (fun k => zz U Z nc k) (pw tc) j)) (nI t)) (ct (fun k => zz U Z nc k) (pw tc))) = nI (ct (fun k => zz U Z nc k) (pw tc)))) i)), (4, .int (nI (bs (fun t => decide (¬ nI (ct (fun a => ho (B a) (nI t)) ac) * 2 ≤ nI ac)) i))), (3, .int (nI (ct Z nc))), (2, .ref q2), (0, .ref (r 0)), (1, .ref (q 0))] := hl
    refine lv_iload hx hb dX1_isSame_106 (lv_at hl 0 rfl) ?_
    refine lv_aload_n hx hb dX1_isSame_108 rfl (lv_at hl 6 rfl) ?_
    refine va_get (D := D) (ci := 1) (v := .int (nI tc)) (C := RX1) (T := TX1) (N := 4) hx hb hts hin hown hK hP 0 rfl rfl 0 (by decide) (hts (.fieldLink RX1 18 "SmudgedStarLaw$Sim" "things" "I") (List.mem_of_getElem? (i := 2) rfl)) (fun _ h9 => h9) rfl dX1_isSame_109 ?_
    refine lv_icmp_ge (tgt := 395) hx hb dX1_isSame_112 (by decide) (fun c112 => ?_) (fun c112 => ?_)
    · skip
      have hie : i = tc := gd_ge_t (by omega) hi c112
      rw [hie] at hl
      refine lv_iconst (v := 0) hx hb dX1_isSame_395 (by decide) ?_
      refine lv_istore (lv' := [(7, .int 0), (6, .int (nI (pw tc))), (5, .int (sur (ct (fun k => zz U Z nc k) (pw tc)) (fun t => decide (nI (ct (fun j => ho (nI (el (fun k => zz U Z nc k) (pw tc) j)) (nI t)) (ct (fun k => zz U Z nc k) (pw tc))) = nI (ct (fun k => zz U Z nc k) (pw tc)))) tc)), (4, .int (nI (bs (fun t => decide (¬ nI (ct (fun a => ho (B a) (nI t)) ac) * 2 ≤ nI ac)) tc))), (3, .int (nI (ct Z nc))), (2, .ref q2), (0, .ref (r 0)), (1, .ref (q 0))]) hx hb dX1_isSame_396 hl (by decide) rfl (fun ls hl => ?_)
      refine lv_iconst (v := 0) hx hb dX1_isSame_398 (by decide) ?_
      refine lv_istore (lv' := [(8, .int 0), (7, .int 0), (6, .int (nI (pw tc))), (5, .int (sur (ct (fun k => zz U Z nc k) (pw tc)) (fun t => decide (nI (ct (fun j => ho (nI (el (fun k => zz U Z nc k) (pw tc) j)) (nI t)) (ct (fun k => zz U Z nc k) (pw tc))) = nI (ct (fun k => zz U Z nc k) (pw tc)))) tc)), (4, .int (nI (bs (fun t => decide (¬ nI (ct (fun a => ho (B a) (nI t)) ac) * 2 ≤ nI ac)) tc))), (3, .int (nI (ct Z nc))), (2, .ref q2), (0, .ref (r 0)), (1, .ref (q 0))]) hx hb dX1_isSame_399 hl (by decide) rfl (fun ls hl => ?_)
      refine w_loop (N := ac) (T := fun i => [(8, .int (nI i)), (7, .int (bsum B i)), (6, .int (nI (pw tc))), (5, .int (sur (ct (fun k => zz U Z nc k) (pw tc)) (fun t => decide (nI (ct (fun j => ho (nI (el (fun k => zz U Z nc k) (pw tc) j)) (nI t)) (ct (fun k => zz U Z nc k) (pw tc))) = nI (ct (fun k => zz U Z nc k) (pw tc)))) tc)), (4, .int (nI (bs (fun t => decide (¬ nI (ct (fun a => ho (B a) (nI t)) ac) * 2 ≤ nI ac)) tc))), (3, .int (nI (ct Z nc))), (2, .ref q2), (0, .ref (r 0)), (1, .ref (q 0))]) (I := fun _ => True) 0 (Nat.zero_le _) trivial (lv_sub hl [0, 1, 2, 3, 4, 5, 6, 7, 8] rfl) (fun i ls hi hI hl ih => ?_)
      have hl : lv_has ls 15 [(8, .int (nI i)), (7, .int (bsum B i)), (6, .int (nI (pw tc))), (5, .int (sur (ct (fun k => zz U Z nc k) (pw tc)) (fun t => decide (nI (ct (fun j => ho (nI (el (fun k => zz U Z nc k) (pw tc) j)) (nI t)) (ct (fun k => zz U Z nc k) (pw tc))) = nI (ct (fun k => zz U Z nc k) (pw tc)))) tc)), (4, .int (nI (bs (fun t => decide (¬ nI (ct (fun a => ho (B a) (nI t)) ac) * 2 ≤ nI ac)) tc))), (3, .int (nI (ct Z nc))), (2, .ref q2), (0, .ref (r 0)), (1, .ref (q 0))] := hl
      refine lv_iload hx hb dX1_isSame_401 (lv_at hl 0 rfl) ?_
      refine lv_aload_n hx hb dX1_isSame_403 rfl (lv_at hl 7 rfl) ?_
      refine va_get (D := D) (ci := 1) (v := .ref (r 2)) (C := RX1) (T := TX1) (N := 4) hx hb hts hin hown hK hP 0 rfl rfl 2 (by decide) (hts (.fieldLink RX1 15 "SmudgedStarLaw$Sim" "astronomers" "[[I") (List.mem_of_getElem? (i := 3) rfl)) (fun _ h9 => h9) rfl dX1_isSame_404 ?_
      refine va_alen (v := nI ac) hx hb hK hP 2 1 rfl rfl rfl dX1_isSame_407 ?_
      refine lv_icmp_ge (tgt := 484) hx hb dX1_isSame_408 (by decide) (fun c408 => ?_) (fun c408 => ?_)
      · skip
        have hie : i = ac := gd_ge_t (by omega) hi c408
        rw [hie] at hl
        refine lv_aload_n hx hb dX1_isSame_484 rfl (lv_at hl 8 rfl) ?_
        refine pcV_i (As := []) (rest := []) ⟨hx, hb, hml, hown, hts⟩ (g_X_things l hPX htc hnc hac) (cwV 0 hts gX1_isSame_X0_things rfl rfl rfl hdX0_things ⟨Nat.le_of_ble_eq_true rfl, Nat.le_of_ble_eq_true rfl⟩) (va_recv hKX hPX (ci := 0) (q0 := 0) rfl rfl) hKX rfl hl.1 (Nat.le_of_ble_eq_true rfl) rfl dX1_isSame_485 ⟨Nat.le_of_ble_eq_true rfl, Nat.le_of_ble_eq_true rfl⟩ ?_
        refine lv_aload_n hx hb dX1_isSame_488 rfl (lv_at hl 7 rfl) ?_
        refine va_get (D := D) (ci := 1) (v := .int (nI tc)) (C := RX1) (T := TX1) (N := 4) hx hb hts hin hown hK hP 0 rfl rfl 0 (by decide) (hts (.fieldLink RX1 18 "SmudgedStarLaw$Sim" "things" "I") (List.mem_of_getElem? (i := 2) rfl)) (fun _ h9 => h9) rfl dX1_isSame_489 ?_
        refine lv_icmp_ne (tgt := 628) hx hb dX1_isSame_492 (by decide) (fun c492 => absurd rfl c492) (fun c492 => ?_)
        refine lv_aload_n hx hb dX1_isSame_495 rfl (lv_at hl 8 rfl) ?_
        refine pcV_i (As := []) (rest := []) ⟨hx, hb, hml, hown, hts⟩ (g_X_nights l hPX htc hnc hac) (cwV 0 hts gX1_isSame_X0_nights rfl rfl rfl hdX0_nights ⟨Nat.le_of_ble_eq_true rfl, Nat.le_of_ble_eq_true rfl⟩) (va_recv hKX hPX (ci := 0) (q0 := 0) rfl rfl) hKX rfl hl.1 (Nat.le_of_ble_eq_true rfl) rfl dX1_isSame_496 ⟨Nat.le_of_ble_eq_true rfl, Nat.le_of_ble_eq_true rfl⟩ ?_
        refine lv_aload_n hx hb dX1_isSame_499 rfl (lv_at hl 7 rfl) ?_
        refine va_get (D := D) (ci := 1) (v := .ref (r 1)) (C := RX1) (T := TX1) (N := 4) hx hb hts hin hown hK hP 0 rfl rfl 1 (by decide) (hts (.fieldLink RX1 9 "SmudgedStarLaw$Sim" "nights" "[[I") (List.mem_of_getElem? (i := 1) rfl)) (fun _ h9 => h9) rfl dX1_isSame_500 ?_
        refine va_alen (v := nI nc) hx hb hK hP 1 1 rfl rfl rfl dX1_isSame_503 ?_
        refine lv_icmp_ne (tgt := 628) hx hb dX1_isSame_504 (by decide) (fun c504 => absurd rfl c504) (fun c504 => ?_)
        refine lv_aload_n hx hb dX1_isSame_507 rfl (lv_at hl 8 rfl) ?_
        refine pcV_i (As := []) (rest := []) ⟨hx, hb, hml, hown, hts⟩ (g_X_smudges l hPX htc hnc hac) (cwV 0 hts gX1_isSame_X0_smudges rfl rfl rfl hdX0_smudges ⟨Nat.le_of_ble_eq_true rfl, Nat.le_of_ble_eq_true rfl⟩) (va_recv hKX hPX (ci := 0) (q0 := 0) rfl rfl) hKX rfl hl.1 (Nat.le_of_ble_eq_true rfl) rfl dX1_isSame_508 ⟨Nat.le_of_ble_eq_true rfl, Nat.le_of_ble_eq_true rfl⟩ ?_
        refine lv_iload_n hx hb dX1_isSame_511 rfl (lv_at hl 5 rfl) ?_
        refine lv_icmp_ne (tgt := 628) hx hb dX1_isSame_512 (by decide) (fun c512 => absurd rfl c512) (fun c512 => ?_)
        refine lv_aload_n hx hb dX1_isSame_515 rfl (lv_at hl 8 rfl) ?_
        refine pcV_i (As := []) (rest := []) ⟨hx, hb, hml, hown, hts⟩ (g_X_agree l hPX htc hnc hac) (cwV 0 hts gX1_isSame_X0_agree rfl rfl rfl hdX0_agree ⟨Nat.le_of_ble_eq_true rfl, Nat.le_of_ble_eq_true rfl⟩) (va_recv hKX hPX (ci := 0) (q0 := 0) rfl rfl) hKX rfl hl.1 (Nat.le_of_ble_eq_true rfl) rfl dX1_isSame_516 ⟨Nat.le_of_ble_eq_true rfl, Nat.le_of_ble_eq_true rfl⟩ ?_
        refine lv_aload_n hx hb dX1_isSame_519 rfl (lv_at hl 6 rfl) ?_
        refine va_alen (v := nI (ct (fun k => zz U Z nc k) (pw tc))) hx hb hK hE 0 0 rfl rfl rfl dX1_isSame_520 ?_
        refine lv_gt0 (t0 := 528) hx hb dX1_isSame_521 dX1_isSame_524 dX1_isSame_525 dX1_isSame_528 (by decide) (by decide) ?_
        refine lv_icmp_ne (tgt := 628) hx hb dX1_isSame_529 (by decide) (fun c529 => absurd (ag_pos U Z hnc htc) c529) (fun c529 => ?_)
        refine lv_aload_n hx hb dX1_isSame_532 rfl (lv_at hl 8 rfl) ?_
        refine pcV_i (As := []) (rest := []) ⟨hx, hb, hml, hown, hts⟩ (g_X_astronomers l hPX htc hnc hac) (cwV 0 hts gX1_isSame_X0_astronomers rfl rfl rfl hdX0_astronomers ⟨Nat.le_of_ble_eq_true rfl, Nat.le_of_ble_eq_true rfl⟩) (va_recv hKX hPX (ci := 0) (q0 := 0) rfl rfl) hKX rfl hl.1 (Nat.le_of_ble_eq_true rfl) rfl dX1_isSame_533 ⟨Nat.le_of_ble_eq_true rfl, Nat.le_of_ble_eq_true rfl⟩ ?_
        refine lv_aload_n hx hb dX1_isSame_536 rfl (lv_at hl 7 rfl) ?_
        refine va_get (D := D) (ci := 1) (v := .ref (r 2)) (C := RX1) (T := TX1) (N := 4) hx hb hts hin hown hK hP 0 rfl rfl 2 (by decide) (hts (.fieldLink RX1 15 "SmudgedStarLaw$Sim" "astronomers" "[[I") (List.mem_of_getElem? (i := 3) rfl)) (fun _ h9 => h9) rfl dX1_isSame_537 ?_
        refine va_alen (v := nI ac) hx hb hK hP 2 1 rfl rfl rfl dX1_isSame_540 ?_
        refine lv_icmp_ne (tgt := 628) hx hb dX1_isSame_541 (by decide) (fun c541 => absurd rfl c541) (fun c541 => ?_)
        refine lv_aload_n hx hb dX1_isSame_544 rfl (lv_at hl 8 rfl) ?_
        refine pcV_i (As := []) (rest := []) ⟨hx, hb, hml, hown, hts⟩ (g_X_vote l hPX htc hnc hac) (cwV 0 hts gX1_isSame_X0_vote rfl rfl rfl hdX0_vote ⟨Nat.le_of_ble_eq_true rfl, Nat.le_of_ble_eq_true rfl⟩) (va_recv hKX hPX (ci := 0) (q0 := 0) rfl rfl) hKX rfl hl.1 (Nat.le_of_ble_eq_true rfl) rfl dX1_isSame_545 ⟨Nat.le_of_ble_eq_true rfl, Nat.le_of_ble_eq_true rfl⟩ ?_
        refine lv_iload hx hb dX1_isSame_548 (lv_at hl 4 rfl) ?_
        refine lv_icmp_ne (tgt := 628) hx hb dX1_isSame_550 (by decide) (fun c550 => absurd (orf_bs _ (by omega)) c550) (fun c550 => ?_)
        refine lv_aload_n hx hb dX1_isSame_553 rfl (lv_at hl 8 rfl) ?_
        refine pcV_i (As := []) (rest := []) ⟨hx, hb, hml, hown, hts⟩ (g_X_changesOfMind l hPX htc hnc hac) (cwV 0 hts gX1_isSame_X0_changesOfMind rfl rfl rfl hdX0_changesOfMind ⟨Nat.le_of_ble_eq_true rfl, Nat.le_of_ble_eq_true rfl⟩) (va_recv hKX hPX (ci := 0) (q0 := 0) rfl rfl) hKX rfl hl.1 (Nat.le_of_ble_eq_true rfl) rfl dX1_isSame_554 ⟨Nat.le_of_ble_eq_true rfl, Nat.le_of_ble_eq_true rfl⟩ ?_
        refine lv_aload_n hx hb dX1_isSame_557 rfl (lv_at hl 7 rfl) ?_
        refine va_get (D := D) (ci := 1) (v := .int ch) (C := RX1) (T := TX1) (N := 4) hx hb hts hin hown hK hP 0 rfl rfl 3 (by decide) (hts (.fieldLink RX1 56 "SmudgedStarLaw$Sim" "changes" "I") (List.mem_of_getElem? (i := 4) rfl)) (fun _ h9 => h9) rfl dX1_isSame_558 ?_
        refine lv_icmp_ne (tgt := 628) hx hb dX1_isSame_561 (by decide) (fun c561 => absurd rfl c561) (fun c561 => ?_)
        refine lv_aload_n hx hb dX1_isSame_564 rfl (lv_at hl 8 rfl) ?_
        refine pcV_i (As := []) (rest := []) ⟨hx, hb, hml, hown, hts⟩ (g_X_explanations l hPX htc hnc hac) (cwV 0 hts gX1_isSame_X0_explanations rfl rfl rfl hdX0_explanations ⟨Nat.le_of_ble_eq_true rfl, Nat.le_of_ble_eq_true rfl⟩) (va_recv hKX hPX (ci := 0) (q0 := 0) rfl rfl) hKX rfl hl.1 (Nat.le_of_ble_eq_true rfl) rfl dX1_isSame_565 ⟨Nat.le_of_ble_eq_true rfl, Nat.le_of_ble_eq_true rfl⟩ ?_
        refine lv_aload_n hx hb dX1_isSame_568 rfl (lv_at hl 6 rfl) ?_
        refine va_alen (v := nI (ct (fun k => zz U Z nc k) (pw tc))) hx hb hK hE 0 0 rfl rfl rfl dX1_isSame_569 ?_
        refine lv_icmp_ne (tgt := 628) hx hb dX1_isSame_570 (by decide) (fun c570 => absurd rfl c570) (fun c570 => ?_)
        refine lv_aload_n hx hb dX1_isSame_573 rfl (lv_at hl 8 rfl) ?_
        refine pcV_i (As := []) (rest := []) ⟨hx, hb, hml, hown, hts⟩ (g_X_simplest l hPX htc hnc hac) (cwV 0 hts gX1_isSame_X0_simplest rfl rfl rfl hdX0_simplest ⟨Nat.le_of_ble_eq_true rfl, Nat.le_of_ble_eq_true rfl⟩) (va_recv hKX hPX (ci := 0) (q0 := 0) rfl rfl) hKX rfl hl.1 (Nat.le_of_ble_eq_true rfl) rfl dX1_isSame_574 ⟨Nat.le_of_ble_eq_true rfl, Nat.le_of_ble_eq_true rfl⟩ ?_
        refine lv_aload_n hx hb dX1_isSame_577 rfl (lv_at hl 7 rfl) ?_
        refine lv_aload_n hx hb dX1_isSame_578 rfl (lv_at hl 6 rfl) ?_
        refine pcV_i (As := [.ref q2]) (rest := [.int ((spx (fun k => zz U Z nc k) (pw tc)).1)]) ⟨hx, hb, hml, hown, hts⟩ (g_S_simplest l hP htc hnc hac hE (by omega) (fun j hj => (el_in hj).1)) (cwV 1 hts gX1_isSame_X1_simplest rfl rfl rfl hdX1_simplest ⟨Nat.le_of_ble_eq_true rfl, Nat.le_of_ble_eq_true rfl⟩) (va_recv hK hP (ci := 1) (q0 := 0) rfl rfl) hK rfl hl.1 (Nat.le_of_ble_eq_true rfl) rfl dX1_isSame_579 ⟨Nat.le_of_ble_eq_true rfl, Nat.le_of_ble_eq_true rfl⟩ ?_
        refine lv_icmp_ne (tgt := 628) hx hb dX1_isSame_582 (by decide) (fun c582 => absurd (sdn_spx _ hpw.2).symm c582) (fun c582 => ?_)
        refine lv_aload_n hx hb dX1_isSame_585 rfl (lv_at hl 8 rfl) ?_
        refine pcV_i (As := []) (rest := []) ⟨hx, hb, hml, hown, hts⟩ (g_X_surelyToBlame l hPX htc hnc hac) (cwV 0 hts gX1_isSame_X0_surelyToBlame rfl rfl rfl hdX0_surelyToBlame ⟨Nat.le_of_ble_eq_true rfl, Nat.le_of_ble_eq_true rfl⟩) (va_recv hKX hPX (ci := 0) (q0 := 0) rfl rfl) hKX rfl hl.1 (Nat.le_of_ble_eq_true rfl) rfl dX1_isSame_586 ⟨Nat.le_of_ble_eq_true rfl, Nat.le_of_ble_eq_true rfl⟩ ?_
        refine lv_iload hx hb dX1_isSame_589 (lv_at hl 3 rfl) ?_
        refine lv_icmp_ne (tgt := 628) hx hb dX1_isSame_591 (by decide) (fun c591 => absurd (su_sur U Z hnc htc) c591) (fun c591 => ?_)
        refine lv_aload_n hx hb dX1_isSame_594 rfl (lv_at hl 8 rfl) ?_
        refine pcV_d (As := []) (rest := []) ⟨hx, hb, hml, hown, hts⟩ (g_X_meanBlame l hPX htc hnc hac) (cwV 0 hts gX1_isSame_X0_meanBlame rfl rfl rfl hdX0_meanBlame ⟨Nat.le_of_ble_eq_true rfl, Nat.le_of_ble_eq_true rfl⟩) (va_recv hKX hPX (ci := 0) (q0 := 0) rfl rfl) hKX rfl hl.1 (Nat.le_of_ble_eq_true rfl) rfl dX1_isSame_595 ⟨Nat.le_of_ble_eq_true rfl, Nat.le_of_ble_eq_true rfl⟩ ?_
        refine lv_aload_n hx hb dX1_isSame_598 rfl (lv_at hl 7 rfl) ?_
        refine va_get (D := D) (ci := 1) (v := .ref (r 2)) (C := RX1) (T := TX1) (N := 4) hx hb hts hin hown hK hP 0 rfl rfl 2 (by decide) (hts (.fieldLink RX1 15 "SmudgedStarLaw$Sim" "astronomers" "[[I") (List.mem_of_getElem? (i := 3) rfl)) (fun _ h9 => h9) rfl dX1_isSame_599 ?_
        refine va_alen (v := nI ac) hx hb hK hP 2 1 rfl rfl rfl dX1_isSame_602 ?_
        refine lv_if_ne (tgt := 610) hx hb dX1_isSame_603 (by decide) (fun c603 => ?_) (fun c603 => ?_)
        · rw [if_neg c603]
          refine lv_iload hx hb dX1_isSame_610 (lv_at hl 1 rfl) ?_
          refine lv_i2d hx hb dX1_isSame_612 ?_
          refine lv_aload_n hx hb dX1_isSame_613 rfl (lv_at hl 7 rfl) ?_
          refine va_get (D := D) (ci := 1) (v := .ref (r 2)) (C := RX1) (T := TX1) (N := 4) hx hb hts hin hown hK hP 0 rfl rfl 2 (by decide) (hts (.fieldLink RX1 15 "SmudgedStarLaw$Sim" "astronomers" "[[I") (List.mem_of_getElem? (i := 3) rfl)) (fun _ h9 => h9) rfl dX1_isSame_614 ?_
          refine va_alen (v := nI ac) hx hb hK hP 2 1 rfl rfl rfl dX1_isSame_617 ?_
          refine lv_i2d hx hb dX1_isSame_618 ?_
          refine lv_ddiv hx hb dX1_isSame_619 (mean_ok c603) ?_
          refine lv_dcmp hx hb dX1_isSame_620 ?_
          refine lv_if_ne (tgt := 628) hx hb dX1_isSame_621 (by decide) (fun c621 => absurd (mean_self c603) c621) (fun c621 => ?_)
          refine lv_iconst (v := 1) hx hb dX1_isSame_624 (by decide) ?_
          refine lv_goto (tgt := 629) hx hb dX1_isSame_625 (by decide) ?_
          exact W.zret (v := 1) (ty := .boolean) hx hb hr rfl (fun t9 ht9 hW9 => ⟨⟨1, (), rfl, rfl, trivial⟩, hS.F ht9⟩) hS.2.2 dX1_isSame_629
        · rw [if_pos c603]
          refine lv_dconst0 hx hb dX1_isSame_606 ?_
          refine lv_goto (tgt := 620) hx hb dX1_isSame_607 (by decide) ?_
          refine lv_dcmp hx hb dX1_isSame_620 ?_
          refine lv_if_ne (tgt := 628) hx hb dX1_isSame_621 (by decide) (fun c621 => absurd mean_0 c621) (fun c621 => ?_)
          refine lv_iconst (v := 1) hx hb dX1_isSame_624 (by decide) ?_
          refine lv_goto (tgt := 629) hx hb dX1_isSame_625 (by decide) ?_
          exact W.zret (v := 1) (ty := .boolean) hx hb hr rfl (fun t9 ht9 hW9 => ⟨⟨1, (), rfl, rfl, trivial⟩, hS.F ht9⟩) hS.2.2 dX1_isSame_629
      · skip
        have hlt : i < ac := gd_ge_f hi c408
        refine lv_aload_n hx hb dX1_isSame_411 rfl (lv_at hl 7 rfl) ?_
        refine va_get (D := D) (ci := 1) (v := .ref (r 2)) (C := RX1) (T := TX1) (N := 4) hx hb hts hin hown hK hP 0 rfl rfl 2 (by decide) (hts (.fieldLink RX1 15 "SmudgedStarLaw$Sim" "astronomers" "[[I") (List.mem_of_getElem? (i := 3) rfl)) (fun _ h9 => h9) rfl dX1_isSame_412 ?_
        refine lv_iload hx hb dX1_isSame_415 (lv_at hl 0 rfl) ?_
        refine ra_ld hx hb hK hP 2 1 rfl rfl (j := i) rfl (hlt) (by omega) dX1_isSame_417 ?_
        refine lv_astore (lv' := [(9, .ref (ar i)), (8, .int (nI i)), (7, .int (bsum B i)), (6, .int (nI (pw tc))), (5, .int (sur (ct (fun k => zz U Z nc k) (pw tc)) (fun t => decide (nI (ct (fun j => ho (nI (el (fun k => zz U Z nc k) (pw tc) j)) (nI t)) (ct (fun k => zz U Z nc k) (pw tc))) = nI (ct (fun k => zz U Z nc k) (pw tc)))) tc)), (4, .int (nI (bs (fun t => decide (¬ nI (ct (fun a => ho (B a) (nI t)) ac) * 2 ≤ nI ac)) tc))), (3, .int (nI (ct Z nc))), (2, .ref q2), (0, .ref (r 0)), (1, .ref (q 0))]) hx hb dX1_isSame_418 hl (by decide) rfl (fun ls hl => ?_)
        refine lv_aload_n hx hb dX1_isSame_420 rfl (lv_at hl 9 rfl) ?_
        refine lv_iload hx hb dX1_isSame_421 (lv_at hl 1 rfl) ?_
        refine pcV_i (As := [.int (nI i)]) (rest := []) ⟨hx, hb, hml, hown, hts⟩ (g_X_blamedBy l hPX htc hnc hac (t := i) hlt) (cwV 1 hts gX1_isSame_X0_blamedBy rfl rfl rfl hdX0_blamedBy ⟨Nat.le_of_ble_eq_true rfl, Nat.le_of_ble_eq_true rfl⟩) (va_recv hKX hPX (ci := 0) (q0 := 0) rfl rfl) hKX rfl hl.1 (Nat.le_of_ble_eq_true rfl) rfl dX1_isSame_423 ⟨Nat.le_of_ble_eq_true rfl, Nat.le_of_ble_eq_true rfl⟩ ?_
        refine lv_aload hx hb dX1_isSame_426 (lv_at hl 0 rfl) ?_
        refine lv_iconst (v := 0) hx hb dX1_isSame_428 (by decide) ?_
        refine rgA_0 hx hb hK hP (j := i) (hlt) dX1_isSame_429 ?_
        refine lv_icmp_ne (tgt := 463) hx hb dX1_isSame_430 (by decide) (fun c430 => absurd rfl c430) (fun c430 => ?_)
        refine lv_aload_n hx hb dX1_isSame_433 rfl (lv_at hl 9 rfl) ?_
        refine lv_iload hx hb dX1_isSame_434 (lv_at hl 1 rfl) ?_
        refine pcV_i (As := [.int (nI i)]) (rest := []) ⟨hx, hb, hml, hown, hts⟩ (g_X_stubbornnessOf l hPX htc hnc hac (t := i) hlt) (cwV 1 hts gX1_isSame_X0_stubbornnessOf rfl rfl rfl hdX0_stubbornnessOf ⟨Nat.le_of_ble_eq_true rfl, Nat.le_of_ble_eq_true rfl⟩) (va_recv hKX hPX (ci := 0) (q0 := 0) rfl rfl) hKX rfl hl.1 (Nat.le_of_ble_eq_true rfl) rfl dX1_isSame_436 ⟨Nat.le_of_ble_eq_true rfl, Nat.le_of_ble_eq_true rfl⟩ ?_
        refine lv_aload hx hb dX1_isSame_439 (lv_at hl 0 rfl) ?_
        refine lv_iconst (v := 1) hx hb dX1_isSame_441 (by decide) ?_
        refine rgA_1 hx hb hK hP (j := i) (hlt) dX1_isSame_442 ?_
        refine lv_icmp_ne (tgt := 463) hx hb dX1_isSame_443 (by decide) (fun c443 => absurd rfl c443) (fun c443 => ?_)
        obtain ⟨k9, hk9, hB9⟩ := hB i
        refine lv_aload_n hx hb dX1_isSame_446 rfl (lv_at hl 9 rfl) ?_
        refine lv_iload hx hb dX1_isSame_447 (lv_at hl 1 rfl) ?_
        refine pcV_i (As := [.int (nI i)]) (rest := []) ⟨hx, hb, hml, hown, hts⟩ (g_X_unexplainedBy l hPX htc hnc hac (t := i) (k := k9) hlt (by omega) hB9) (cwV 1 hts gX1_isSame_X0_unexplainedBy rfl rfl rfl hdX0_unexplainedBy ⟨Nat.le_of_ble_eq_true rfl, Nat.le_of_ble_eq_true rfl⟩) (va_recv hKX hPX (ci := 0) (q0 := 0) rfl rfl) hKX rfl hl.1 (Nat.le_of_ble_eq_true rfl) rfl dX1_isSame_449 ⟨Nat.le_of_ble_eq_true rfl, Nat.le_of_ble_eq_true rfl⟩ ?_
        refine lv_aload_n hx hb dX1_isSame_452 rfl (lv_at hl 8 rfl) ?_
        refine lv_aload hx hb dX1_isSame_453 (lv_at hl 0 rfl) ?_
        refine lv_iconst (v := 0) hx hb dX1_isSame_455 (by decide) ?_
        refine rgA_0 hx hb hK hP (j := i) (hlt) dX1_isSame_456 ?_
        refine pcV_i (As := [.int (B i)]) (rest := [.int (nI (un U Z (B i) nc))]) ⟨hx, hb, hml, hown, hts⟩ (g_S_unexplained l hP htc hnc hac hU (v := (B i)) (hB i)) (cwV 1 hts gX1_isSame_X1_unexplained rfl rfl rfl hdX1_unexplained ⟨Nat.le_of_ble_eq_true rfl, Nat.le_of_ble_eq_true rfl⟩) (va_recv hK hP (ci := 1) (q0 := 0) rfl rfl) hK rfl hl.1 (Nat.le_of_ble_eq_true rfl) rfl dX1_isSame_457 ⟨Nat.le_of_ble_eq_true rfl, Nat.le_of_ble_eq_true rfl⟩ ?_
        refine lv_icmp_eq (tgt := 465) hx hb dX1_isSame_460 (by decide) (fun c460 => ?_) (fun c460 => absurd rfl c460)
        refine lv_iload hx hb dX1_isSame_465 (lv_at hl 2 rfl) ?_
        refine lv_aload_n hx hb dX1_isSame_467 rfl (lv_at hl 8 rfl) ?_
        refine lv_aload hx hb dX1_isSame_468 (lv_at hl 0 rfl) ?_
        refine lv_iconst (v := 0) hx hb dX1_isSame_470 (by decide) ?_
        refine rgA_0 hx hb hK hP (j := i) (hlt) dX1_isSame_471 ?_
        refine pcV_i (As := [.int (B i)]) (rest := [.int (bsum B i)]) ⟨hx, hb, hml, hown, hts⟩ (g_S_size l hP htc hnc hac (v := (B i)) (hB i)) (cwV 1 hts gX1_isSame_X1_size rfl rfl rfl hdX1_size ⟨Nat.le_of_ble_eq_true rfl, Nat.le_of_ble_eq_true rfl⟩) (va_recv hK hP (ci := 1) (q0 := 0) rfl rfl) hK rfl hl.1 (Nat.le_of_ble_eq_true rfl) rfl dX1_isSame_472 ⟨Nat.le_of_ble_eq_true rfl, Nat.le_of_ble_eq_true rfl⟩ ?_
        refine lv_iadd hx hb dX1_isSame_475 ?_
        refine lv_istore (lv' := [(7, .int ((bsum B i) + (bc (B i)))), (9, .ref (ar i)), (8, .int (nI i)), (6, .int (nI (pw tc))), (5, .int (sur (ct (fun k => zz U Z nc k) (pw tc)) (fun t => decide (nI (ct (fun j => ho (nI (el (fun k => zz U Z nc k) (pw tc) j)) (nI t)) (ct (fun k => zz U Z nc k) (pw tc))) = nI (ct (fun k => zz U Z nc k) (pw tc)))) tc)), (4, .int (nI (bs (fun t => decide (¬ nI (ct (fun a => ho (B a) (nI t)) ac) * 2 ≤ nI ac)) tc))), (3, .int (nI (ct Z nc))), (2, .ref q2), (0, .ref (r 0)), (1, .ref (q 0))]) hx hb dX1_isSame_476 hl (by decide) rfl (fun ls hl => ?_)
        refine lv_iinc (v := nI (i + 1)) (lv' := [(8, .int (nI (i + 1))), (7, .int ((bsum B i) + (bc (B i)))), (9, .ref (ar i)), (6, .int (nI (pw tc))), (5, .int (sur (ct (fun k => zz U Z nc k) (pw tc)) (fun t => decide (nI (ct (fun j => ho (nI (el (fun k => zz U Z nc k) (pw tc) j)) (nI t)) (ct (fun k => zz U Z nc k) (pw tc))) = nI (ct (fun k => zz U Z nc k) (pw tc)))) tc)), (4, .int (nI (bs (fun t => decide (¬ nI (ct (fun a => ho (B a) (nI t)) ac) * 2 ≤ nI ac)) tc))), (3, .int (nI (ct Z nc))), (2, .ref q2), (0, .ref (r 0)), (1, .ref (q 0))]) hx hb dX1_isSame_478 hl (k := 2) rfl (nI_1 _) (by decide) rfl (fun ls hl => ?_)
        refine lv_goto (tgt := 401) hx hb dX1_isSame_481 (by decide) ?_
        have e7 : ((bsum B i) + (bc (B i))) = bsum B (i + 1) := bsum_s B i
        have hl := lv_sub (l' := [(8, .int (nI (i + 1))), (7, .int ((bsum B i) + (bc (B i)))), (6, .int (nI (pw tc))), (5, .int (sur (ct (fun k => zz U Z nc k) (pw tc)) (fun t => decide (nI (ct (fun j => ho (nI (el (fun k => zz U Z nc k) (pw tc) j)) (nI t)) (ct (fun k => zz U Z nc k) (pw tc))) = nI (ct (fun k => zz U Z nc k) (pw tc)))) tc)), (4, .int (nI (bs (fun t => decide (¬ nI (ct (fun a => ho (B a) (nI t)) ac) * 2 ≤ nI ac)) tc))), (3, .int (nI (ct Z nc))), (2, .ref q2), (0, .ref (r 0)), (1, .ref (q 0))]) hl [0, 1, 3, 4, 5, 6, 7, 8, 9] rfl
        rw [e7] at hl
        exact ih ls hlt trivial hl
    · skip
      have hlt : i < tc := gd_ge_f hi c112
      refine lv_iconst (v := 0) hx hb dX1_isSame_115 (by decide) ?_
      refine lv_istore (lv' := [(8, .int 0), (7, .int (nI i)), (6, .int (nI (pw i))), (5, .int (sur (ct (fun k => zz U Z nc k) (pw tc)) (fun t => decide (nI (ct (fun j => ho (nI (el (fun k => zz U Z nc k) (pw tc) j)) (nI t)) (ct (fun k => zz U Z nc k) (pw tc))) = nI (ct (fun k => zz U Z nc k) (pw tc)))) i)), (4, .int (nI (bs (fun t => decide (¬ nI (ct (fun a => ho (B a) (nI t)) ac) * 2 ≤ nI ac)) i))), (3, .int (nI (ct Z nc))), (2, .ref q2), (0, .ref (r 0)), (1, .ref (q 0))]) hx hb dX1_isSame_116 hl (by decide) rfl (fun ls hl => ?_)
      refine lv_iconst (v := 0) hx hb dX1_isSame_118 (by decide) ?_
      refine lv_istore (lv' := [(9, .int 0), (8, .int 0), (7, .int (nI i)), (6, .int (nI (pw i))), (5, .int (sur (ct (fun k => zz U Z nc k) (pw tc)) (fun t => decide (nI (ct (fun j => ho (nI (el (fun k => zz U Z nc k) (pw tc) j)) (nI t)) (ct (fun k => zz U Z nc k) (pw tc))) = nI (ct (fun k => zz U Z nc k) (pw tc)))) i)), (4, .int (nI (bs (fun t => decide (¬ nI (ct (fun a => ho (B a) (nI t)) ac) * 2 ≤ nI ac)) i))), (3, .int (nI (ct Z nc))), (2, .ref q2), (0, .ref (r 0)), (1, .ref (q 0))]) hx hb dX1_isSame_119 hl (by decide) rfl (fun ls hl => ?_)
      refine lv_iconst (v := 0) hx hb dX1_isSame_121 (by decide) ?_
      refine lv_istore (lv' := [(10, .int 0), (9, .int 0), (8, .int 0), (7, .int (nI i)), (6, .int (nI (pw i))), (5, .int (sur (ct (fun k => zz U Z nc k) (pw tc)) (fun t => decide (nI (ct (fun j => ho (nI (el (fun k => zz U Z nc k) (pw tc) j)) (nI t)) (ct (fun k => zz U Z nc k) (pw tc))) = nI (ct (fun k => zz U Z nc k) (pw tc)))) i)), (4, .int (nI (bs (fun t => decide (¬ nI (ct (fun a => ho (B a) (nI t)) ac) * 2 ≤ nI ac)) i))), (3, .int (nI (ct Z nc))), (2, .ref q2), (0, .ref (r 0)), (1, .ref (q 0))]) hx hb dX1_isSame_122 hl (by decide) rfl (fun ls hl => ?_)
      refine lv_aload_n hx hb dX1_isSame_124 rfl (lv_at hl 8 rfl) ?_
      refine lv_astore (lv' := [(11, .ref q2), (10, .int 0), (9, .int 0), (8, .int 0), (7, .int (nI i)), (6, .int (nI (pw i))), (5, .int (sur (ct (fun k => zz U Z nc k) (pw tc)) (fun t => decide (nI (ct (fun j => ho (nI (el (fun k => zz U Z nc k) (pw tc) j)) (nI t)) (ct (fun k => zz U Z nc k) (pw tc))) = nI (ct (fun k => zz U Z nc k) (pw tc)))) i)), (4, .int (nI (bs (fun t => decide (¬ nI (ct (fun a => ho (B a) (nI t)) ac) * 2 ≤ nI ac)) i))), (3, .int (nI (ct Z nc))), (2, .ref q2), (0, .ref (r 0)), (1, .ref (q 0))]) hx hb dX1_isSame_125 hl (by decide) rfl (fun ls hl => ?_)
      refine lv_aload hx hb dX1_isSame_127 (lv_at hl 0 rfl) ?_
      refine va_alen (v := nI (ct (fun k => zz U Z nc k) (pw tc))) hx hb hK hE 0 0 rfl rfl rfl dX1_isSame_129 ?_
      refine lv_istore (lv' := [(12, .int (nI (ct (fun k => zz U Z nc k) (pw tc)))), (11, .ref q2), (10, .int 0), (9, .int 0), (8, .int 0), (7, .int (nI i)), (6, .int (nI (pw i))), (5, .int (sur (ct (fun k => zz U Z nc k) (pw tc)) (fun t => decide (nI (ct (fun j => ho (nI (el (fun k => zz U Z nc k) (pw tc) j)) (nI t)) (ct (fun k => zz U Z nc k) (pw tc))) = nI (ct (fun k => zz U Z nc k) (pw tc)))) i)), (4, .int (nI (bs (fun t => decide (¬ nI (ct (fun a => ho (B a) (nI t)) ac) * 2 ≤ nI ac)) i))), (3, .int (nI (ct Z nc))), (2, .ref q2), (0, .ref (r 0)), (1, .ref (q 0))]) hx hb dX1_isSame_130 hl (by decide) rfl (fun ls hl => ?_)
      refine lv_iconst (v := 0) hx hb dX1_isSame_132 (by decide) ?_
      refine lv_istore (lv' := [(13, .int 0), (12, .int (nI (ct (fun k => zz U Z nc k) (pw tc)))), (11, .ref q2), (10, .int 0), (9, .int 0), (8, .int 0), (7, .int (nI i)), (6, .int (nI (pw i))), (5, .int (sur (ct (fun k => zz U Z nc k) (pw tc)) (fun t => decide (nI (ct (fun j => ho (nI (el (fun k => zz U Z nc k) (pw tc) j)) (nI t)) (ct (fun k => zz U Z nc k) (pw tc))) = nI (ct (fun k => zz U Z nc k) (pw tc)))) i)), (4, .int (nI (bs (fun t => decide (¬ nI (ct (fun a => ho (B a) (nI t)) ac) * 2 ≤ nI ac)) i))), (3, .int (nI (ct Z nc))), (2, .ref q2), (0, .ref (r 0)), (1, .ref (q 0))]) hx hb dX1_isSame_133 hl (by decide) rfl (fun ls hl => ?_)
      refine w_loop (N := ct (fun k => zz U Z nc k) (pw tc)) (T := fun jj => [(13, .int (nI jj)), (12, .int (nI (ct (fun k => zz U Z nc k) (pw tc)))), (11, .ref q2), (10, .int 0), (9, .int 0), (8, .int (nI (ct (fun j => ho (nI (el (fun k => zz U Z nc k) (pw tc) j)) (nI i)) jj))), (7, .int (nI i)), (6, .int (nI (pw i))), (5, .int (sur (ct (fun k => zz U Z nc k) (pw tc)) (fun t => decide (nI (ct (fun j => ho (nI (el (fun k => zz U Z nc k) (pw tc) j)) (nI t)) (ct (fun k => zz U Z nc k) (pw tc))) = nI (ct (fun k => zz U Z nc k) (pw tc)))) i)), (4, .int (nI (bs (fun t => decide (¬ nI (ct (fun a => ho (B a) (nI t)) ac) * 2 ≤ nI ac)) i))), (3, .int (nI (ct Z nc))), (2, .ref q2), (0, .ref (r 0)), (1, .ref (q 0))]) (I := fun _ => True) 0 (Nat.zero_le _) trivial (lv_sub hl [0, 1, 2, 3, 4, 5, 6, 7, 8, 9, 10, 11, 12, 13] rfl) (fun jj ls hi9 hI9 hl ih9 => ?_)
      have hl : lv_has ls 15 [(13, .int (nI jj)), (12, .int (nI (ct (fun k => zz U Z nc k) (pw tc)))), (11, .ref q2), (10, .int 0), (9, .int 0), (8, .int (nI (ct (fun j => ho (nI (el (fun k => zz U Z nc k) (pw tc) j)) (nI i)) jj))), (7, .int (nI i)), (6, .int (nI (pw i))), (5, .int (sur (ct (fun k => zz U Z nc k) (pw tc)) (fun t => decide (nI (ct (fun j => ho (nI (el (fun k => zz U Z nc k) (pw tc) j)) (nI t)) (ct (fun k => zz U Z nc k) (pw tc))) = nI (ct (fun k => zz U Z nc k) (pw tc)))) i)), (4, .int (nI (bs (fun t => decide (¬ nI (ct (fun a => ho (B a) (nI t)) ac) * 2 ≤ nI ac)) i))), (3, .int (nI (ct Z nc))), (2, .ref q2), (0, .ref (r 0)), (1, .ref (q 0))] := hl
      refine lv_iload hx hb dX1_isSame_135 (lv_at hl 0 rfl) ?_
      refine lv_iload hx hb dX1_isSame_137 (lv_at hl 1 rfl) ?_
      refine lv_icmp_ge (tgt := 175) hx hb dX1_isSame_139 (by decide) (fun c139 => ?_) (fun c139 => ?_)
      · skip
        have hie9 : jj = ct (fun k => zz U Z nc k) (pw tc) := gd_ge_t (by omega) hi9 c139
        rw [hie9] at hl
        refine lv_aload_n hx hb dX1_isSame_175 rfl (lv_at hl 12 rfl) ?_
        refine va_get (D := D) (ci := 1) (v := .ref (r 1)) (C := RX1) (T := TX1) (N := 4) hx hb hts hin hown hK hP 0 rfl rfl 1 (by decide) (hts (.fieldLink RX1 9 "SmudgedStarLaw$Sim" "nights" "[[I") (List.mem_of_getElem? (i := 1) rfl)) (fun _ h9 => h9) rfl dX1_isSame_176 ?_
        refine lv_astore (lv' := [(11, .ref (r 1)), (13, .int (nI (ct (fun k => zz U Z nc k) (pw tc)))), (12, .int (nI (ct (fun k => zz U Z nc k) (pw tc)))), (10, .int 0), (9, .int 0), (8, .int (nI (ct (fun j => ho (nI (el (fun k => zz U Z nc k) (pw tc) j)) (nI i)) (ct (fun k => zz U Z nc k) (pw tc))))), (7, .int (nI i)), (6, .int (nI (pw i))), (5, .int (sur (ct (fun k => zz U Z nc k) (pw tc)) (fun t => decide (nI (ct (fun j => ho (nI (el (fun k => zz U Z nc k) (pw tc) j)) (nI t)) (ct (fun k => zz U Z nc k) (pw tc))) = nI (ct (fun k => zz U Z nc k) (pw tc)))) i)), (4, .int (nI (bs (fun t => decide (¬ nI (ct (fun a => ho (B a) (nI t)) ac) * 2 ≤ nI ac)) i))), (3, .int (nI (ct Z nc))), (2, .ref q2), (0, .ref (r 0)), (1, .ref (q 0))]) hx hb dX1_isSame_179 hl (by decide) rfl (fun ls hl => ?_)
        refine lv_aload hx hb dX1_isSame_181 (lv_at hl 0 rfl) ?_
        refine va_alen (v := nI nc) hx hb hK hP 1 1 rfl rfl rfl dX1_isSame_183 ?_
        refine lv_istore (lv' := [(12, .int (nI nc)), (11, .ref (r 1)), (13, .int (nI (ct (fun k => zz U Z nc k) (pw tc)))), (10, .int 0), (9, .int 0), (8, .int (nI (ct (fun j => ho (nI (el (fun k => zz U Z nc k) (pw tc) j)) (nI i)) (ct (fun k => zz U Z nc k) (pw tc))))), (7, .int (nI i)), (6, .int (nI (pw i))), (5, .int (sur (ct (fun k => zz U Z nc k) (pw tc)) (fun t => decide (nI (ct (fun j => ho (nI (el (fun k => zz U Z nc k) (pw tc) j)) (nI t)) (ct (fun k => zz U Z nc k) (pw tc))) = nI (ct (fun k => zz U Z nc k) (pw tc)))) i)), (4, .int (nI (bs (fun t => decide (¬ nI (ct (fun a => ho (B a) (nI t)) ac) * 2 ≤ nI ac)) i))), (3, .int (nI (ct Z nc))), (2, .ref q2), (0, .ref (r 0)), (1, .ref (q 0))]) hx hb dX1_isSame_184 hl (by decide) rfl (fun ls hl => ?_)
        refine lv_iconst (v := 0) hx hb dX1_isSame_186 (by decide) ?_
        refine lv_istore (lv' := [(13, .int 0), (12, .int (nI nc)), (11, .ref (r 1)), (10, .int 0), (9, .int 0), (8, .int (nI (ct (fun j => ho (nI (el (fun k => zz U Z nc k) (pw tc) j)) (nI i)) (ct (fun k => zz U Z nc k) (pw tc))))), (7, .int (nI i)), (6, .int (nI (pw i))), (5, .int (sur (ct (fun k => zz U Z nc k) (pw tc)) (fun t => decide (nI (ct (fun j => ho (nI (el (fun k => zz U Z nc k) (pw tc) j)) (nI t)) (ct (fun k => zz U Z nc k) (pw tc))) = nI (ct (fun k => zz U Z nc k) (pw tc)))) i)), (4, .int (nI (bs (fun t => decide (¬ nI (ct (fun a => ho (B a) (nI t)) ac) * 2 ≤ nI ac)) i))), (3, .int (nI (ct Z nc))), (2, .ref q2), (0, .ref (r 0)), (1, .ref (q 0))]) hx hb dX1_isSame_187 hl (by decide) rfl (fun ls hl => ?_)
        refine w_loop (N := nc) (T := fun jj => [(13, .int (nI jj)), (12, .int (nI nc)), (11, .ref (r 1)), (10, .int (nI (ct (fun j => Z j && ho (U j) (nI i)) jj))), (9, .int (nI (ct (fun j => ho (U j) (nI i)) jj))), (8, .int (nI (ct (fun j => ho (nI (el (fun k => zz U Z nc k) (pw tc) j)) (nI i)) (ct (fun k => zz U Z nc k) (pw tc))))), (7, .int (nI i)), (6, .int (nI (pw i))), (5, .int (sur (ct (fun k => zz U Z nc k) (pw tc)) (fun t => decide (nI (ct (fun j => ho (nI (el (fun k => zz U Z nc k) (pw tc) j)) (nI t)) (ct (fun k => zz U Z nc k) (pw tc))) = nI (ct (fun k => zz U Z nc k) (pw tc)))) i)), (4, .int (nI (bs (fun t => decide (¬ nI (ct (fun a => ho (B a) (nI t)) ac) * 2 ≤ nI ac)) i))), (3, .int (nI (ct Z nc))), (2, .ref q2), (0, .ref (r 0)), (1, .ref (q 0))]) (I := fun _ => True) 0 (Nat.zero_le _) trivial (lv_sub hl [0, 1, 2, 3, 4, 5, 6, 7, 8, 9, 10, 11, 12, 13] rfl) (fun jj ls hi9 hI9 hl ih9 => ?_)
        have hl : lv_has ls 15 [(13, .int (nI jj)), (12, .int (nI nc)), (11, .ref (r 1)), (10, .int (nI (ct (fun j => Z j && ho (U j) (nI i)) jj))), (9, .int (nI (ct (fun j => ho (U j) (nI i)) jj))), (8, .int (nI (ct (fun j => ho (nI (el (fun k => zz U Z nc k) (pw tc) j)) (nI i)) (ct (fun k => zz U Z nc k) (pw tc))))), (7, .int (nI i)), (6, .int (nI (pw i))), (5, .int (sur (ct (fun k => zz U Z nc k) (pw tc)) (fun t => decide (nI (ct (fun j => ho (nI (el (fun k => zz U Z nc k) (pw tc) j)) (nI t)) (ct (fun k => zz U Z nc k) (pw tc))) = nI (ct (fun k => zz U Z nc k) (pw tc)))) i)), (4, .int (nI (bs (fun t => decide (¬ nI (ct (fun a => ho (B a) (nI t)) ac) * 2 ≤ nI ac)) i))), (3, .int (nI (ct Z nc))), (2, .ref q2), (0, .ref (r 0)), (1, .ref (q 0))] := hl
        refine lv_iload hx hb dX1_isSame_189 (lv_at hl 0 rfl) ?_
        refine lv_iload hx hb dX1_isSame_191 (lv_at hl 1 rfl) ?_
        refine lv_icmp_ge (tgt := 256) hx hb dX1_isSame_193 (by decide) (fun c193 => ?_) (fun c193 => ?_)
        · skip
          have hie9 : jj = nc := gd_ge_t (by omega) hi9 c193
          rw [hie9] at hl
          refine lv_aload_n hx hb dX1_isSame_256 rfl (lv_at hl 13 rfl) ?_
          refine lv_iload hx hb dX1_isSame_257 (lv_at hl 6 rfl) ?_
          refine pcV_i (As := [.int (nI i)]) (rest := []) ⟨hx, hb, hml, hown, hts⟩ (g_X_nightsWith l hPX htc hnc hac (t := i) hlt) (cwV 1 hts gX1_isSame_X0_nightsWith rfl rfl rfl hdX0_nightsWith ⟨Nat.le_of_ble_eq_true rfl, Nat.le_of_ble_eq_true rfl⟩) (va_recv hKX hPX (ci := 0) (q0 := 0) rfl rfl) hKX rfl hl.1 (Nat.le_of_ble_eq_true rfl) rfl dX1_isSame_259 ⟨Nat.le_of_ble_eq_true rfl, Nat.le_of_ble_eq_true rfl⟩ ?_
          refine lv_iload hx hb dX1_isSame_262 (lv_at hl 4 rfl) ?_
          refine lv_icmp_ne (tgt := 334) hx hb dX1_isSame_264 (by decide) (fun c264 => absurd rfl c264) (fun c264 => ?_)
          refine lv_aload_n hx hb dX1_isSame_267 rfl (lv_at hl 13 rfl) ?_
          refine lv_iload hx hb dX1_isSame_268 (lv_at hl 6 rfl) ?_
          refine pcV_i (As := [.int (nI i)]) (rest := []) ⟨hx, hb, hml, hown, hts⟩ (g_X_smudgesWith l hPX htc hnc hac (t := i) hlt) (cwV 1 hts gX1_isSame_X0_smudgesWith rfl rfl rfl hdX0_smudgesWith ⟨Nat.le_of_ble_eq_true rfl, Nat.le_of_ble_eq_true rfl⟩) (va_recv hKX hPX (ci := 0) (q0 := 0) rfl rfl) hKX rfl hl.1 (Nat.le_of_ble_eq_true rfl) rfl dX1_isSame_270 ⟨Nat.le_of_ble_eq_true rfl, Nat.le_of_ble_eq_true rfl⟩ ?_
          refine lv_iload hx hb dX1_isSame_273 (lv_at hl 3 rfl) ?_
          refine lv_icmp_ne (tgt := 334) hx hb dX1_isSame_275 (by decide) (fun c275 => absurd rfl c275) (fun c275 => ?_)
          refine lv_aload_n hx hb dX1_isSame_278 rfl (lv_at hl 13 rfl) ?_
          refine lv_iload hx hb dX1_isSame_279 (lv_at hl 6 rfl) ?_
          refine pcV_i (As := [.int (nI i)]) (rest := []) ⟨hx, hb, hml, hown, hts⟩ (g_X_isCleared l hPX htc hnc hac (t := i) hlt) (cwV 1 hts gX1_isSame_X0_isCleared rfl rfl rfl hdX0_isCleared ⟨Nat.le_of_ble_eq_true rfl, Nat.le_of_ble_eq_true rfl⟩) (va_recv hKX hPX (ci := 0) (q0 := 0) rfl rfl) hKX rfl hl.1 (Nat.le_of_ble_eq_true rfl) rfl dX1_isSame_281 ⟨Nat.le_of_ble_eq_true rfl, Nat.le_of_ble_eq_true rfl⟩ ?_
          refine lv_aload_n hx hb dX1_isSame_284 rfl (lv_at hl 12 rfl) ?_
          refine lv_iload hx hb dX1_isSame_285 (lv_at hl 6 rfl) ?_
          refine pcV_i (As := [.int (nI i)]) (rest := [.int (bI (ho (cld U Z nc) (nI i)))]) ⟨hx, hb, hml, hown, hts⟩ (g_S_isCleared l hP htc hnc hac hU (t := i) hlt) (cwV 1 hts gX1_isSame_X1_isCleared rfl rfl rfl hdX1_isCleared ⟨Nat.le_of_ble_eq_true rfl, Nat.le_of_ble_eq_true rfl⟩) (va_recv hK hP (ci := 1) (q0 := 0) rfl rfl) hK rfl hl.1 (Nat.le_of_ble_eq_true rfl) rfl dX1_isSame_287 ⟨Nat.le_of_ble_eq_true rfl, Nat.le_of_ble_eq_true rfl⟩ ?_
          refine lv_icmp_ne (tgt := 334) hx hb dX1_isSame_290 (by decide) (fun c290 => absurd rfl c290) (fun c290 => ?_)
          refine lv_aload_n hx hb dX1_isSame_293 rfl (lv_at hl 13 rfl) ?_
          refine lv_iload hx hb dX1_isSame_294 (lv_at hl 6 rfl) ?_
          refine pcV_i (As := [.int (nI i)]) (rest := []) ⟨hx, hb, hml, hown, hts⟩ (g_X_isProved l hPX htc hnc hac (t := i) hlt) (cwV 1 hts gX1_isSame_X0_isProved rfl rfl rfl hdX0_isProved ⟨Nat.le_of_ble_eq_true rfl, Nat.le_of_ble_eq_true rfl⟩) (va_recv hKX hPX (ci := 0) (q0 := 0) rfl rfl) hKX rfl hl.1 (Nat.le_of_ble_eq_true rfl) rfl dX1_isSame_296 ⟨Nat.le_of_ble_eq_true rfl, Nat.le_of_ble_eq_true rfl⟩ ?_
          refine lv_aload_n hx hb dX1_isSame_299 rfl (lv_at hl 12 rfl) ?_
          refine lv_iload hx hb dX1_isSame_300 (lv_at hl 6 rfl) ?_
          refine pcV_i (As := [.int (nI i)]) (rest := [.int (bI (anyb (fun j => Z j && ho (U j) (nI i) && decide (U j &&& ((cld U Z nc ||| ((1 : Int32) <<< (nI i &&& 31))) ^^^ (-1)) = 0)) nc))]) ⟨hx, hb, hml, hown, hts⟩ (g_S_isProved l hP htc hnc hac hU (t := i) hlt) (cwV 1 hts gX1_isSame_X1_isProved rfl rfl rfl hdX1_isProved ⟨Nat.le_of_ble_eq_true rfl, Nat.le_of_ble_eq_true rfl⟩) (va_recv hK hP (ci := 1) (q0 := 0) rfl rfl) hK rfl hl.1 (Nat.le_of_ble_eq_true rfl) rfl dX1_isSame_302 ⟨Nat.le_of_ble_eq_true rfl, Nat.le_of_ble_eq_true rfl⟩ ?_
          refine lv_icmp_ne (tgt := 334) hx hb dX1_isSame_305 (by decide) (fun c305 => absurd rfl c305) (fun c305 => ?_)
          refine lv_aload_n hx hb dX1_isSame_308 rfl (lv_at hl 13 rfl) ?_
          refine lv_iload hx hb dX1_isSame_309 (lv_at hl 6 rfl) ?_
          refine pcV_i (As := [.int (nI i)]) (rest := []) ⟨hx, hb, hml, hown, hts⟩ (g_X_setsWith l hPX htc hnc hac (t := i) hlt) (cwV 1 hts gX1_isSame_X0_setsWith rfl rfl rfl hdX0_setsWith ⟨Nat.le_of_ble_eq_true rfl, Nat.le_of_ble_eq_true rfl⟩) (va_recv hKX hPX (ci := 0) (q0 := 0) rfl rfl) hKX rfl hl.1 (Nat.le_of_ble_eq_true rfl) rfl dX1_isSame_311 ⟨Nat.le_of_ble_eq_true rfl, Nat.le_of_ble_eq_true rfl⟩ ?_
          refine lv_iload hx hb dX1_isSame_314 (lv_at hl 5 rfl) ?_
          refine lv_icmp_ne (tgt := 334) hx hb dX1_isSame_316 (by decide) (fun c316 => absurd (congrArg nI (sw_el U Z nc (pw tc) i)) c316) (fun c316 => ?_)
          refine lv_aload_n hx hb dX1_isSame_319 rfl (lv_at hl 13 rfl) ?_
          refine lv_iload hx hb dX1_isSame_320 (lv_at hl 6 rfl) ?_
          refine pcV_i (As := [.int (nI i)]) (rest := []) ⟨hx, hb, hml, hown, hts⟩ (g_X_votesFor l hPX htc hnc hac (t := i) hlt) (cwV 1 hts gX1_isSame_X0_votesFor rfl rfl rfl hdX0_votesFor ⟨Nat.le_of_ble_eq_true rfl, Nat.le_of_ble_eq_true rfl⟩) (va_recv hKX hPX (ci := 0) (q0 := 0) rfl rfl) hKX rfl hl.1 (Nat.le_of_ble_eq_true rfl) rfl dX1_isSame_322 ⟨Nat.le_of_ble_eq_true rfl, Nat.le_of_ble_eq_true rfl⟩ ?_
          refine lv_aload_n hx hb dX1_isSame_325 rfl (lv_at hl 12 rfl) ?_
          refine lv_iload hx hb dX1_isSame_326 (lv_at hl 6 rfl) ?_
          refine pcV_i (As := [.int (nI i)]) (rest := [.int (nI (ct (fun a => ho (B a) (nI i)) ac))]) ⟨hx, hb, hml, hown, hts⟩ (g_S_votes l hP htc hnc hac hB (t := i) hlt) (cwV 1 hts gX1_isSame_X1_votes rfl rfl rfl hdX1_votes ⟨Nat.le_of_ble_eq_true rfl, Nat.le_of_ble_eq_true rfl⟩) (va_recv hK hP (ci := 1) (q0 := 0) rfl rfl) hK rfl hl.1 (Nat.le_of_ble_eq_true rfl) rfl dX1_isSame_328 ⟨Nat.le_of_ble_eq_true rfl, Nat.le_of_ble_eq_true rfl⟩ ?_
          refine lv_icmp_eq (tgt := 336) hx hb dX1_isSame_331 (by decide) (fun c331 => ?_) (fun c331 => absurd rfl c331)
          refine lv_aload_n hx hb dX1_isSame_336 rfl (lv_at hl 12 rfl) ?_
          refine lv_iload hx hb dX1_isSame_337 (lv_at hl 6 rfl) ?_
          refine pcV_i (As := [.int (nI i)]) (rest := []) ⟨hx, hb, hml, hown, hts⟩ (g_S_votes l hP htc hnc hac hB (t := i) hlt) (cwV 1 hts gX1_isSame_X1_votes rfl rfl rfl hdX1_votes ⟨Nat.le_of_ble_eq_true rfl, Nat.le_of_ble_eq_true rfl⟩) (va_recv hK hP (ci := 1) (q0 := 0) rfl rfl) hK rfl hl.1 (Nat.le_of_ble_eq_true rfl) rfl dX1_isSame_339 ⟨Nat.le_of_ble_eq_true rfl, Nat.le_of_ble_eq_true rfl⟩ ?_
          refine lv_aload_n hx hb dX1_isSame_342 rfl (lv_at hl 12 rfl) ?_
          refine va_get (D := D) (ci := 1) (v := .ref (r 2)) (C := RX1) (T := TX1) (N := 4) hx hb hts hin hown hK hP 0 rfl rfl 2 (by decide) (hts (.fieldLink RX1 15 "SmudgedStarLaw$Sim" "astronomers" "[[I") (List.mem_of_getElem? (i := 3) rfl)) (fun _ h9 => h9) rfl dX1_isSame_343 ?_
          refine va_alen (v := nI ac) hx hb hK hP 2 1 rfl rfl rfl dX1_isSame_346 ?_
          refine lv_aload_n hx hb dX1_isSame_347 rfl (lv_at hl 12 rfl) ?_
          refine lv_iload hx hb dX1_isSame_348 (lv_at hl 6 rfl) ?_
          refine pcV_i (As := [.int (nI i)]) (rest := [.int (nI ac), .int (nI (ct (fun a => ho (B a) (nI i)) ac))]) ⟨hx, hb, hml, hown, hts⟩ (g_S_votes l hP htc hnc hac hB (t := i) hlt) (cwV 1 hts gX1_isSame_X1_votes rfl rfl rfl hdX1_votes ⟨Nat.le_of_ble_eq_true rfl, Nat.le_of_ble_eq_true rfl⟩) (va_recv hK hP (ci := 1) (q0 := 0) rfl rfl) hK rfl hl.1 (Nat.le_of_ble_eq_true rfl) rfl dX1_isSame_350 ⟨Nat.le_of_ble_eq_true rfl, Nat.le_of_ble_eq_true rfl⟩ ?_
          refine lv_isub hx hb dX1_isSame_353 ?_
          refine lv_icmp_le (tgt := 364) hx hb dX1_isSame_354 (by decide) (fun c354 => ?_) (fun c354 => ?_)
          · skip
            refine lv_aload_n hx hb dX1_isSame_364 rfl (lv_at hl 11 rfl) ?_
            refine va_alen (v := nI (ct (fun k => zz U Z nc k) (pw tc))) hx hb hK hE 0 0 rfl rfl rfl dX1_isSame_365 ?_
            refine lv_if_le (tgt := 383) hx hb dX1_isSame_366 (by decide) (fun c366 => ?_) (fun c366 => ?_)
            · skip
              refine lv_iload hx hb dX1_isSame_383 (lv_at hl 7 rfl) ?_
              refine lv_iconst (v := 2) hx hb dX1_isSame_385 (by decide) ?_
              refine lv_imul hx hb dX1_isSame_386 ?_
              refine lv_istore (lv' := [(6, .int ((nI (pw i)) * 2)), (13, .int (nI nc)), (12, .int (nI nc)), (11, .ref (r 1)), (10, .int (nI (ct (fun j => Z j && ho (U j) (nI i)) nc))), (9, .int (nI (ct (fun j => ho (U j) (nI i)) nc))), (8, .int (nI (ct (fun j => ho (nI (el (fun k => zz U Z nc k) (pw tc) j)) (nI i)) (ct (fun k => zz U Z nc k) (pw tc))))), (7, .int (nI i)), (5, .int (sur (ct (fun k => zz U Z nc k) (pw tc)) (fun t => decide (nI (ct (fun j => ho (nI (el (fun k => zz U Z nc k) (pw tc) j)) (nI t)) (ct (fun k => zz U Z nc k) (pw tc))) = nI (ct (fun k => zz U Z nc k) (pw tc)))) i)), (4, .int (nI (bs (fun t => decide (¬ nI (ct (fun a => ho (B a) (nI t)) ac) * 2 ≤ nI ac)) i))), (3, .int (nI (ct Z nc))), (2, .ref q2), (0, .ref (r 0)), (1, .ref (q 0))]) hx hb dX1_isSame_387 hl (by decide) rfl (fun ls hl => ?_)
              refine lv_iinc (v := nI (i + 1)) (lv' := [(7, .int (nI (i + 1))), (6, .int ((nI (pw i)) * 2)), (13, .int (nI nc)), (12, .int (nI nc)), (11, .ref (r 1)), (10, .int (nI (ct (fun j => Z j && ho (U j) (nI i)) nc))), (9, .int (nI (ct (fun j => ho (U j) (nI i)) nc))), (8, .int (nI (ct (fun j => ho (nI (el (fun k => zz U Z nc k) (pw tc) j)) (nI i)) (ct (fun k => zz U Z nc k) (pw tc))))), (5, .int (sur (ct (fun k => zz U Z nc k) (pw tc)) (fun t => decide (nI (ct (fun j => ho (nI (el (fun k => zz U Z nc k) (pw tc) j)) (nI t)) (ct (fun k => zz U Z nc k) (pw tc))) = nI (ct (fun k => zz U Z nc k) (pw tc)))) i)), (4, .int (nI (bs (fun t => decide (¬ nI (ct (fun a => ho (B a) (nI t)) ac) * 2 ≤ nI ac)) i))), (3, .int (nI (ct Z nc))), (2, .ref q2), (0, .ref (r 0)), (1, .ref (q 0))]) hx hb dX1_isSame_389 hl (k := 7) rfl (nI_1 _) (by decide) rfl (fun ls hl => ?_)
              refine lv_goto (tgt := 106) hx hb dX1_isSame_392 (by decide) ?_
              have e6 : ((nI (pw i)) * 2) = nI (pw (i + 1)) := pw_s i
              have e5 : (sur (ct (fun k => zz U Z nc k) (pw tc)) (fun t => decide (nI (ct (fun j => ho (nI (el (fun k => zz U Z nc k) (pw tc) j)) (nI t)) (ct (fun k => zz U Z nc k) (pw tc))) = nI (ct (fun k => zz U Z nc k) (pw tc)))) i) = sur (ct (fun k => zz U Z nc k) (pw tc)) (fun t => decide (nI (ct (fun j => ho (nI (el (fun k => zz U Z nc k) (pw tc) j)) (nI t)) (ct (fun k => zz U Z nc k) (pw tc))) = nI (ct (fun k => zz U Z nc k) (pw tc)))) (i + 1) := by first | exact sur_z (by omega) c366 | exact sur_f (p := (fun t => decide (nI (ct (fun j => ho (nI (el (fun k => zz U Z nc k) (pw tc) j)) (nI t)) (ct (fun k => zz U Z nc k) (pw tc))) = nI (ct (fun k => zz U Z nc k) (pw tc))))) (decide_eq_false c373) | exact sur_t (p := (fun t => decide (nI (ct (fun j => ho (nI (el (fun k => zz U Z nc k) (pw tc) j)) (nI t)) (ct (fun k => zz U Z nc k) (pw tc))) = nI (ct (fun k => zz U Z nc k) (pw tc))))) c366 (decide_eq_true c373)
              have e4 : (nI (bs (fun t => decide (¬ nI (ct (fun a => ho (B a) (nI t)) ac) * 2 ≤ nI ac)) i)) = nI (bs (fun t => decide (¬ nI (ct (fun a => ho (B a) (nI t)) ac) * 2 ≤ nI ac)) (i + 1)) := by first | exact bs_t (p := (fun t => decide (¬ nI (ct (fun a => ho (B a) (nI t)) ac) * 2 ≤ nI ac))) (vo_t hac (ct_le (fun a => ho (B a) (nI i)) ac) c354) | exact bs_f (p := (fun t => decide (¬ nI (ct (fun a => ho (B a) (nI t)) ac) * 2 ≤ nI ac))) (vo_f hac (ct_le (fun a => ho (B a) (nI i)) ac) c354)
              have hl := lv_sub (l' := [(7, .int (nI (i + 1))), (6, .int ((nI (pw i)) * 2)), (5, .int (sur (ct (fun k => zz U Z nc k) (pw tc)) (fun t => decide (nI (ct (fun j => ho (nI (el (fun k => zz U Z nc k) (pw tc) j)) (nI t)) (ct (fun k => zz U Z nc k) (pw tc))) = nI (ct (fun k => zz U Z nc k) (pw tc)))) i)), (4, .int (nI (bs (fun t => decide (¬ nI (ct (fun a => ho (B a) (nI t)) ac) * 2 ≤ nI ac)) i))), (3, .int (nI (ct Z nc))), (2, .ref q2), (0, .ref (r 0)), (1, .ref (q 0))]) hl [0, 1, 8, 9, 10, 11, 12, 13] rfl
              rw [e6, e5, e4] at hl
              exact ih ls hlt trivial hl
            · skip
              refine lv_iload hx hb dX1_isSame_369 (lv_at hl 5 rfl) ?_
              refine lv_aload_n hx hb dX1_isSame_371 rfl (lv_at hl 11 rfl) ?_
              refine va_alen (v := nI (ct (fun k => zz U Z nc k) (pw tc))) hx hb hK hE 0 0 rfl rfl rfl dX1_isSame_372 ?_
              refine lv_icmp_ne (tgt := 383) hx hb dX1_isSame_373 (by decide) (fun c373 => ?_) (fun c373 => ?_)
              · skip
                refine lv_iload hx hb dX1_isSame_383 (lv_at hl 7 rfl) ?_
                refine lv_iconst (v := 2) hx hb dX1_isSame_385 (by decide) ?_
                refine lv_imul hx hb dX1_isSame_386 ?_
                refine lv_istore (lv' := [(6, .int ((nI (pw i)) * 2)), (13, .int (nI nc)), (12, .int (nI nc)), (11, .ref (r 1)), (10, .int (nI (ct (fun j => Z j && ho (U j) (nI i)) nc))), (9, .int (nI (ct (fun j => ho (U j) (nI i)) nc))), (8, .int (nI (ct (fun j => ho (nI (el (fun k => zz U Z nc k) (pw tc) j)) (nI i)) (ct (fun k => zz U Z nc k) (pw tc))))), (7, .int (nI i)), (5, .int (sur (ct (fun k => zz U Z nc k) (pw tc)) (fun t => decide (nI (ct (fun j => ho (nI (el (fun k => zz U Z nc k) (pw tc) j)) (nI t)) (ct (fun k => zz U Z nc k) (pw tc))) = nI (ct (fun k => zz U Z nc k) (pw tc)))) i)), (4, .int (nI (bs (fun t => decide (¬ nI (ct (fun a => ho (B a) (nI t)) ac) * 2 ≤ nI ac)) i))), (3, .int (nI (ct Z nc))), (2, .ref q2), (0, .ref (r 0)), (1, .ref (q 0))]) hx hb dX1_isSame_387 hl (by decide) rfl (fun ls hl => ?_)
                refine lv_iinc (v := nI (i + 1)) (lv' := [(7, .int (nI (i + 1))), (6, .int ((nI (pw i)) * 2)), (13, .int (nI nc)), (12, .int (nI nc)), (11, .ref (r 1)), (10, .int (nI (ct (fun j => Z j && ho (U j) (nI i)) nc))), (9, .int (nI (ct (fun j => ho (U j) (nI i)) nc))), (8, .int (nI (ct (fun j => ho (nI (el (fun k => zz U Z nc k) (pw tc) j)) (nI i)) (ct (fun k => zz U Z nc k) (pw tc))))), (5, .int (sur (ct (fun k => zz U Z nc k) (pw tc)) (fun t => decide (nI (ct (fun j => ho (nI (el (fun k => zz U Z nc k) (pw tc) j)) (nI t)) (ct (fun k => zz U Z nc k) (pw tc))) = nI (ct (fun k => zz U Z nc k) (pw tc)))) i)), (4, .int (nI (bs (fun t => decide (¬ nI (ct (fun a => ho (B a) (nI t)) ac) * 2 ≤ nI ac)) i))), (3, .int (nI (ct Z nc))), (2, .ref q2), (0, .ref (r 0)), (1, .ref (q 0))]) hx hb dX1_isSame_389 hl (k := 7) rfl (nI_1 _) (by decide) rfl (fun ls hl => ?_)
                refine lv_goto (tgt := 106) hx hb dX1_isSame_392 (by decide) ?_
                have e6 : ((nI (pw i)) * 2) = nI (pw (i + 1)) := pw_s i
                have e5 : (sur (ct (fun k => zz U Z nc k) (pw tc)) (fun t => decide (nI (ct (fun j => ho (nI (el (fun k => zz U Z nc k) (pw tc) j)) (nI t)) (ct (fun k => zz U Z nc k) (pw tc))) = nI (ct (fun k => zz U Z nc k) (pw tc)))) i) = sur (ct (fun k => zz U Z nc k) (pw tc)) (fun t => decide (nI (ct (fun j => ho (nI (el (fun k => zz U Z nc k) (pw tc) j)) (nI t)) (ct (fun k => zz U Z nc k) (pw tc))) = nI (ct (fun k => zz U Z nc k) (pw tc)))) (i + 1) := by first | exact sur_z (by omega) c366 | exact sur_f (p := (fun t => decide (nI (ct (fun j => ho (nI (el (fun k => zz U Z nc k) (pw tc) j)) (nI t)) (ct (fun k => zz U Z nc k) (pw tc))) = nI (ct (fun k => zz U Z nc k) (pw tc))))) (decide_eq_false c373) | exact sur_t (p := (fun t => decide (nI (ct (fun j => ho (nI (el (fun k => zz U Z nc k) (pw tc) j)) (nI t)) (ct (fun k => zz U Z nc k) (pw tc))) = nI (ct (fun k => zz U Z nc k) (pw tc))))) c366 (decide_eq_true c373)
                have e4 : (nI (bs (fun t => decide (¬ nI (ct (fun a => ho (B a) (nI t)) ac) * 2 ≤ nI ac)) i)) = nI (bs (fun t => decide (¬ nI (ct (fun a => ho (B a) (nI t)) ac) * 2 ≤ nI ac)) (i + 1)) := by first | exact bs_t (p := (fun t => decide (¬ nI (ct (fun a => ho (B a) (nI t)) ac) * 2 ≤ nI ac))) (vo_t hac (ct_le (fun a => ho (B a) (nI i)) ac) c354) | exact bs_f (p := (fun t => decide (¬ nI (ct (fun a => ho (B a) (nI t)) ac) * 2 ≤ nI ac))) (vo_f hac (ct_le (fun a => ho (B a) (nI i)) ac) c354)
                have hl := lv_sub (l' := [(7, .int (nI (i + 1))), (6, .int ((nI (pw i)) * 2)), (5, .int (sur (ct (fun k => zz U Z nc k) (pw tc)) (fun t => decide (nI (ct (fun j => ho (nI (el (fun k => zz U Z nc k) (pw tc) j)) (nI t)) (ct (fun k => zz U Z nc k) (pw tc))) = nI (ct (fun k => zz U Z nc k) (pw tc)))) i)), (4, .int (nI (bs (fun t => decide (¬ nI (ct (fun a => ho (B a) (nI t)) ac) * 2 ≤ nI ac)) i))), (3, .int (nI (ct Z nc))), (2, .ref q2), (0, .ref (r 0)), (1, .ref (q 0))]) hl [0, 1, 8, 9, 10, 11, 12, 13] rfl
                rw [e6, e5, e4] at hl
                exact ih ls hlt trivial hl
              · skip
                refine lv_iload hx hb dX1_isSame_376 (lv_at hl 8 rfl) ?_
                refine lv_iload hx hb dX1_isSame_378 (lv_at hl 7 rfl) ?_
                refine lv_iadd hx hb dX1_isSame_380 ?_
                refine lv_istore (lv' := [(5, .int ((sur (ct (fun k => zz U Z nc k) (pw tc)) (fun t => decide (nI (ct (fun j => ho (nI (el (fun k => zz U Z nc k) (pw tc) j)) (nI t)) (ct (fun k => zz U Z nc k) (pw tc))) = nI (ct (fun k => zz U Z nc k) (pw tc)))) i) + (nI (pw i)))), (13, .int (nI nc)), (12, .int (nI nc)), (11, .ref (r 1)), (10, .int (nI (ct (fun j => Z j && ho (U j) (nI i)) nc))), (9, .int (nI (ct (fun j => ho (U j) (nI i)) nc))), (8, .int (nI (ct (fun j => ho (nI (el (fun k => zz U Z nc k) (pw tc) j)) (nI i)) (ct (fun k => zz U Z nc k) (pw tc))))), (7, .int (nI i)), (6, .int (nI (pw i))), (4, .int (nI (bs (fun t => decide (¬ nI (ct (fun a => ho (B a) (nI t)) ac) * 2 ≤ nI ac)) i))), (3, .int (nI (ct Z nc))), (2, .ref q2), (0, .ref (r 0)), (1, .ref (q 0))]) hx hb dX1_isSame_381 hl (by decide) rfl (fun ls hl => ?_)
                refine lv_iload hx hb dX1_isSame_383 (lv_at hl 8 rfl) ?_
                refine lv_iconst (v := 2) hx hb dX1_isSame_385 (by decide) ?_
                refine lv_imul hx hb dX1_isSame_386 ?_
                refine lv_istore (lv' := [(6, .int ((nI (pw i)) * 2)), (5, .int ((sur (ct (fun k => zz U Z nc k) (pw tc)) (fun t => decide (nI (ct (fun j => ho (nI (el (fun k => zz U Z nc k) (pw tc) j)) (nI t)) (ct (fun k => zz U Z nc k) (pw tc))) = nI (ct (fun k => zz U Z nc k) (pw tc)))) i) + (nI (pw i)))), (13, .int (nI nc)), (12, .int (nI nc)), (11, .ref (r 1)), (10, .int (nI (ct (fun j => Z j && ho (U j) (nI i)) nc))), (9, .int (nI (ct (fun j => ho (U j) (nI i)) nc))), (8, .int (nI (ct (fun j => ho (nI (el (fun k => zz U Z nc k) (pw tc) j)) (nI i)) (ct (fun k => zz U Z nc k) (pw tc))))), (7, .int (nI i)), (4, .int (nI (bs (fun t => decide (¬ nI (ct (fun a => ho (B a) (nI t)) ac) * 2 ≤ nI ac)) i))), (3, .int (nI (ct Z nc))), (2, .ref q2), (0, .ref (r 0)), (1, .ref (q 0))]) hx hb dX1_isSame_387 hl (by decide) rfl (fun ls hl => ?_)
                refine lv_iinc (v := nI (i + 1)) (lv' := [(7, .int (nI (i + 1))), (6, .int ((nI (pw i)) * 2)), (5, .int ((sur (ct (fun k => zz U Z nc k) (pw tc)) (fun t => decide (nI (ct (fun j => ho (nI (el (fun k => zz U Z nc k) (pw tc) j)) (nI t)) (ct (fun k => zz U Z nc k) (pw tc))) = nI (ct (fun k => zz U Z nc k) (pw tc)))) i) + (nI (pw i)))), (13, .int (nI nc)), (12, .int (nI nc)), (11, .ref (r 1)), (10, .int (nI (ct (fun j => Z j && ho (U j) (nI i)) nc))), (9, .int (nI (ct (fun j => ho (U j) (nI i)) nc))), (8, .int (nI (ct (fun j => ho (nI (el (fun k => zz U Z nc k) (pw tc) j)) (nI i)) (ct (fun k => zz U Z nc k) (pw tc))))), (4, .int (nI (bs (fun t => decide (¬ nI (ct (fun a => ho (B a) (nI t)) ac) * 2 ≤ nI ac)) i))), (3, .int (nI (ct Z nc))), (2, .ref q2), (0, .ref (r 0)), (1, .ref (q 0))]) hx hb dX1_isSame_389 hl (k := 8) rfl (nI_1 _) (by decide) rfl (fun ls hl => ?_)
                refine lv_goto (tgt := 106) hx hb dX1_isSame_392 (by decide) ?_
                have e6 : ((nI (pw i)) * 2) = nI (pw (i + 1)) := pw_s i
                have e5 : ((sur (ct (fun k => zz U Z nc k) (pw tc)) (fun t => decide (nI (ct (fun j => ho (nI (el (fun k => zz U Z nc k) (pw tc) j)) (nI t)) (ct (fun k => zz U Z nc k) (pw tc))) = nI (ct (fun k => zz U Z nc k) (pw tc)))) i) + (nI (pw i))) = sur (ct (fun k => zz U Z nc k) (pw tc)) (fun t => decide (nI (ct (fun j => ho (nI (el (fun k => zz U Z nc k) (pw tc) j)) (nI t)) (ct (fun k => zz U Z nc k) (pw tc))) = nI (ct (fun k => zz U Z nc k) (pw tc)))) (i + 1) := by first | exact sur_z (by omega) c366 | exact sur_f (p := (fun t => decide (nI (ct (fun j => ho (nI (el (fun k => zz U Z nc k) (pw tc) j)) (nI t)) (ct (fun k => zz U Z nc k) (pw tc))) = nI (ct (fun k => zz U Z nc k) (pw tc))))) (decide_eq_false c373) | exact sur_t (p := (fun t => decide (nI (ct (fun j => ho (nI (el (fun k => zz U Z nc k) (pw tc) j)) (nI t)) (ct (fun k => zz U Z nc k) (pw tc))) = nI (ct (fun k => zz U Z nc k) (pw tc))))) c366 (decide_eq_true c373)
                have e4 : (nI (bs (fun t => decide (¬ nI (ct (fun a => ho (B a) (nI t)) ac) * 2 ≤ nI ac)) i)) = nI (bs (fun t => decide (¬ nI (ct (fun a => ho (B a) (nI t)) ac) * 2 ≤ nI ac)) (i + 1)) := by first | exact bs_t (p := (fun t => decide (¬ nI (ct (fun a => ho (B a) (nI t)) ac) * 2 ≤ nI ac))) (vo_t hac (ct_le (fun a => ho (B a) (nI i)) ac) c354) | exact bs_f (p := (fun t => decide (¬ nI (ct (fun a => ho (B a) (nI t)) ac) * 2 ≤ nI ac))) (vo_f hac (ct_le (fun a => ho (B a) (nI i)) ac) c354)
                have hl := lv_sub (l' := [(7, .int (nI (i + 1))), (6, .int ((nI (pw i)) * 2)), (5, .int ((sur (ct (fun k => zz U Z nc k) (pw tc)) (fun t => decide (nI (ct (fun j => ho (nI (el (fun k => zz U Z nc k) (pw tc) j)) (nI t)) (ct (fun k => zz U Z nc k) (pw tc))) = nI (ct (fun k => zz U Z nc k) (pw tc)))) i) + (nI (pw i)))), (4, .int (nI (bs (fun t => decide (¬ nI (ct (fun a => ho (B a) (nI t)) ac) * 2 ≤ nI ac)) i))), (3, .int (nI (ct Z nc))), (2, .ref q2), (0, .ref (r 0)), (1, .ref (q 0))]) hl [0, 1, 2, 9, 10, 11, 12, 13] rfl
                rw [e6, e5, e4] at hl
                exact ih ls hlt trivial hl
          · skip
            have hv8 := ct_le (fun a => ho (B a) (nI i)) ac
            refine lv_iload hx hb dX1_isSame_357 (lv_at hl 9 rfl) ?_
            refine lv_iload hx hb dX1_isSame_359 (lv_at hl 7 rfl) ?_
            refine lv_iadd hx hb dX1_isSame_361 ?_
            refine lv_istore (lv' := [(4, .int ((nI (bs (fun t => decide (¬ nI (ct (fun a => ho (B a) (nI t)) ac) * 2 ≤ nI ac)) i)) + (nI (pw i)))), (13, .int (nI nc)), (12, .int (nI nc)), (11, .ref (r 1)), (10, .int (nI (ct (fun j => Z j && ho (U j) (nI i)) nc))), (9, .int (nI (ct (fun j => ho (U j) (nI i)) nc))), (8, .int (nI (ct (fun j => ho (nI (el (fun k => zz U Z nc k) (pw tc) j)) (nI i)) (ct (fun k => zz U Z nc k) (pw tc))))), (7, .int (nI i)), (6, .int (nI (pw i))), (5, .int (sur (ct (fun k => zz U Z nc k) (pw tc)) (fun t => decide (nI (ct (fun j => ho (nI (el (fun k => zz U Z nc k) (pw tc) j)) (nI t)) (ct (fun k => zz U Z nc k) (pw tc))) = nI (ct (fun k => zz U Z nc k) (pw tc)))) i)), (3, .int (nI (ct Z nc))), (2, .ref q2), (0, .ref (r 0)), (1, .ref (q 0))]) hx hb dX1_isSame_362 hl (by decide) rfl (fun ls hl => ?_)
            refine lv_aload_n hx hb dX1_isSame_364 rfl (lv_at hl 11 rfl) ?_
            refine va_alen (v := nI (ct (fun k => zz U Z nc k) (pw tc))) hx hb hK hE 0 0 rfl rfl rfl dX1_isSame_365 ?_
            refine lv_if_le (tgt := 383) hx hb dX1_isSame_366 (by decide) (fun c366 => ?_) (fun c366 => ?_)
            · skip
              refine lv_iload hx hb dX1_isSame_383 (lv_at hl 8 rfl) ?_
              refine lv_iconst (v := 2) hx hb dX1_isSame_385 (by decide) ?_
              refine lv_imul hx hb dX1_isSame_386 ?_
              refine lv_istore (lv' := [(6, .int ((nI (pw i)) * 2)), (4, .int ((nI (bs (fun t => decide (¬ nI (ct (fun a => ho (B a) (nI t)) ac) * 2 ≤ nI ac)) i)) + (nI (pw i)))), (13, .int (nI nc)), (12, .int (nI nc)), (11, .ref (r 1)), (10, .int (nI (ct (fun j => Z j && ho (U j) (nI i)) nc))), (9, .int (nI (ct (fun j => ho (U j) (nI i)) nc))), (8, .int (nI (ct (fun j => ho (nI (el (fun k => zz U Z nc k) (pw tc) j)) (nI i)) (ct (fun k => zz U Z nc k) (pw tc))))), (7, .int (nI i)), (5, .int (sur (ct (fun k => zz U Z nc k) (pw tc)) (fun t => decide (nI (ct (fun j => ho (nI (el (fun k => zz U Z nc k) (pw tc) j)) (nI t)) (ct (fun k => zz U Z nc k) (pw tc))) = nI (ct (fun k => zz U Z nc k) (pw tc)))) i)), (3, .int (nI (ct Z nc))), (2, .ref q2), (0, .ref (r 0)), (1, .ref (q 0))]) hx hb dX1_isSame_387 hl (by decide) rfl (fun ls hl => ?_)
              refine lv_iinc (v := nI (i + 1)) (lv' := [(7, .int (nI (i + 1))), (6, .int ((nI (pw i)) * 2)), (4, .int ((nI (bs (fun t => decide (¬ nI (ct (fun a => ho (B a) (nI t)) ac) * 2 ≤ nI ac)) i)) + (nI (pw i)))), (13, .int (nI nc)), (12, .int (nI nc)), (11, .ref (r 1)), (10, .int (nI (ct (fun j => Z j && ho (U j) (nI i)) nc))), (9, .int (nI (ct (fun j => ho (U j) (nI i)) nc))), (8, .int (nI (ct (fun j => ho (nI (el (fun k => zz U Z nc k) (pw tc) j)) (nI i)) (ct (fun k => zz U Z nc k) (pw tc))))), (5, .int (sur (ct (fun k => zz U Z nc k) (pw tc)) (fun t => decide (nI (ct (fun j => ho (nI (el (fun k => zz U Z nc k) (pw tc) j)) (nI t)) (ct (fun k => zz U Z nc k) (pw tc))) = nI (ct (fun k => zz U Z nc k) (pw tc)))) i)), (3, .int (nI (ct Z nc))), (2, .ref q2), (0, .ref (r 0)), (1, .ref (q 0))]) hx hb dX1_isSame_389 hl (k := 8) rfl (nI_1 _) (by decide) rfl (fun ls hl => ?_)
              refine lv_goto (tgt := 106) hx hb dX1_isSame_392 (by decide) ?_
              have e6 : ((nI (pw i)) * 2) = nI (pw (i + 1)) := pw_s i
              have e5 : (sur (ct (fun k => zz U Z nc k) (pw tc)) (fun t => decide (nI (ct (fun j => ho (nI (el (fun k => zz U Z nc k) (pw tc) j)) (nI t)) (ct (fun k => zz U Z nc k) (pw tc))) = nI (ct (fun k => zz U Z nc k) (pw tc)))) i) = sur (ct (fun k => zz U Z nc k) (pw tc)) (fun t => decide (nI (ct (fun j => ho (nI (el (fun k => zz U Z nc k) (pw tc) j)) (nI t)) (ct (fun k => zz U Z nc k) (pw tc))) = nI (ct (fun k => zz U Z nc k) (pw tc)))) (i + 1) := by first | exact sur_z (by omega) c366 | exact sur_f (p := (fun t => decide (nI (ct (fun j => ho (nI (el (fun k => zz U Z nc k) (pw tc) j)) (nI t)) (ct (fun k => zz U Z nc k) (pw tc))) = nI (ct (fun k => zz U Z nc k) (pw tc))))) (decide_eq_false c373) | exact sur_t (p := (fun t => decide (nI (ct (fun j => ho (nI (el (fun k => zz U Z nc k) (pw tc) j)) (nI t)) (ct (fun k => zz U Z nc k) (pw tc))) = nI (ct (fun k => zz U Z nc k) (pw tc))))) c366 (decide_eq_true c373)
              have e4 : ((nI (bs (fun t => decide (¬ nI (ct (fun a => ho (B a) (nI t)) ac) * 2 ≤ nI ac)) i)) + (nI (pw i))) = nI (bs (fun t => decide (¬ nI (ct (fun a => ho (B a) (nI t)) ac) * 2 ≤ nI ac)) (i + 1)) := by first | exact bs_t (p := (fun t => decide (¬ nI (ct (fun a => ho (B a) (nI t)) ac) * 2 ≤ nI ac))) (vo_t hac (ct_le (fun a => ho (B a) (nI i)) ac) c354) | exact bs_f (p := (fun t => decide (¬ nI (ct (fun a => ho (B a) (nI t)) ac) * 2 ≤ nI ac))) (vo_f hac (ct_le (fun a => ho (B a) (nI i)) ac) c354)
              have hl := lv_sub (l' := [(7, .int (nI (i + 1))), (6, .int ((nI (pw i)) * 2)), (5, .int (sur (ct (fun k => zz U Z nc k) (pw tc)) (fun t => decide (nI (ct (fun j => ho (nI (el (fun k => zz U Z nc k) (pw tc) j)) (nI t)) (ct (fun k => zz U Z nc k) (pw tc))) = nI (ct (fun k => zz U Z nc k) (pw tc)))) i)), (4, .int ((nI (bs (fun t => decide (¬ nI (ct (fun a => ho (B a) (nI t)) ac) * 2 ≤ nI ac)) i)) + (nI (pw i)))), (3, .int (nI (ct Z nc))), (2, .ref q2), (0, .ref (r 0)), (1, .ref (q 0))]) hl [0, 1, 9, 2, 10, 11, 12, 13] rfl
              rw [e6, e5, e4] at hl
              exact ih ls hlt trivial hl
            · skip
              refine lv_iload hx hb dX1_isSame_369 (lv_at hl 6 rfl) ?_
              refine lv_aload_n hx hb dX1_isSame_371 rfl (lv_at hl 11 rfl) ?_
              refine va_alen (v := nI (ct (fun k => zz U Z nc k) (pw tc))) hx hb hK hE 0 0 rfl rfl rfl dX1_isSame_372 ?_
              refine lv_icmp_ne (tgt := 383) hx hb dX1_isSame_373 (by decide) (fun c373 => ?_) (fun c373 => ?_)
              · skip
                refine lv_iload hx hb dX1_isSame_383 (lv_at hl 8 rfl) ?_
                refine lv_iconst (v := 2) hx hb dX1_isSame_385 (by decide) ?_
                refine lv_imul hx hb dX1_isSame_386 ?_
                refine lv_istore (lv' := [(6, .int ((nI (pw i)) * 2)), (4, .int ((nI (bs (fun t => decide (¬ nI (ct (fun a => ho (B a) (nI t)) ac) * 2 ≤ nI ac)) i)) + (nI (pw i)))), (13, .int (nI nc)), (12, .int (nI nc)), (11, .ref (r 1)), (10, .int (nI (ct (fun j => Z j && ho (U j) (nI i)) nc))), (9, .int (nI (ct (fun j => ho (U j) (nI i)) nc))), (8, .int (nI (ct (fun j => ho (nI (el (fun k => zz U Z nc k) (pw tc) j)) (nI i)) (ct (fun k => zz U Z nc k) (pw tc))))), (7, .int (nI i)), (5, .int (sur (ct (fun k => zz U Z nc k) (pw tc)) (fun t => decide (nI (ct (fun j => ho (nI (el (fun k => zz U Z nc k) (pw tc) j)) (nI t)) (ct (fun k => zz U Z nc k) (pw tc))) = nI (ct (fun k => zz U Z nc k) (pw tc)))) i)), (3, .int (nI (ct Z nc))), (2, .ref q2), (0, .ref (r 0)), (1, .ref (q 0))]) hx hb dX1_isSame_387 hl (by decide) rfl (fun ls hl => ?_)
                refine lv_iinc (v := nI (i + 1)) (lv' := [(7, .int (nI (i + 1))), (6, .int ((nI (pw i)) * 2)), (4, .int ((nI (bs (fun t => decide (¬ nI (ct (fun a => ho (B a) (nI t)) ac) * 2 ≤ nI ac)) i)) + (nI (pw i)))), (13, .int (nI nc)), (12, .int (nI nc)), (11, .ref (r 1)), (10, .int (nI (ct (fun j => Z j && ho (U j) (nI i)) nc))), (9, .int (nI (ct (fun j => ho (U j) (nI i)) nc))), (8, .int (nI (ct (fun j => ho (nI (el (fun k => zz U Z nc k) (pw tc) j)) (nI i)) (ct (fun k => zz U Z nc k) (pw tc))))), (5, .int (sur (ct (fun k => zz U Z nc k) (pw tc)) (fun t => decide (nI (ct (fun j => ho (nI (el (fun k => zz U Z nc k) (pw tc) j)) (nI t)) (ct (fun k => zz U Z nc k) (pw tc))) = nI (ct (fun k => zz U Z nc k) (pw tc)))) i)), (3, .int (nI (ct Z nc))), (2, .ref q2), (0, .ref (r 0)), (1, .ref (q 0))]) hx hb dX1_isSame_389 hl (k := 8) rfl (nI_1 _) (by decide) rfl (fun ls hl => ?_)
                refine lv_goto (tgt := 106) hx hb dX1_isSame_392 (by decide) ?_
                have e6 : ((nI (pw i)) * 2) = nI (pw (i + 1)) := pw_s i
                have e5 : (sur (ct (fun k => zz U Z nc k) (pw tc)) (fun t => decide (nI (ct (fun j => ho (nI (el (fun k => zz U Z nc k) (pw tc) j)) (nI t)) (ct (fun k => zz U Z nc k) (pw tc))) = nI (ct (fun k => zz U Z nc k) (pw tc)))) i) = sur (ct (fun k => zz U Z nc k) (pw tc)) (fun t => decide (nI (ct (fun j => ho (nI (el (fun k => zz U Z nc k) (pw tc) j)) (nI t)) (ct (fun k => zz U Z nc k) (pw tc))) = nI (ct (fun k => zz U Z nc k) (pw tc)))) (i + 1) := by first | exact sur_z (by omega) c366 | exact sur_f (p := (fun t => decide (nI (ct (fun j => ho (nI (el (fun k => zz U Z nc k) (pw tc) j)) (nI t)) (ct (fun k => zz U Z nc k) (pw tc))) = nI (ct (fun k => zz U Z nc k) (pw tc))))) (decide_eq_false c373) | exact sur_t (p := (fun t => decide (nI (ct (fun j => ho (nI (el (fun k => zz U Z nc k) (pw tc) j)) (nI t)) (ct (fun k => zz U Z nc k) (pw tc))) = nI (ct (fun k => zz U Z nc k) (pw tc))))) c366 (decide_eq_true c373)
                have e4 : ((nI (bs (fun t => decide (¬ nI (ct (fun a => ho (B a) (nI t)) ac) * 2 ≤ nI ac)) i)) + (nI (pw i))) = nI (bs (fun t => decide (¬ nI (ct (fun a => ho (B a) (nI t)) ac) * 2 ≤ nI ac)) (i + 1)) := by first | exact bs_t (p := (fun t => decide (¬ nI (ct (fun a => ho (B a) (nI t)) ac) * 2 ≤ nI ac))) (vo_t hac (ct_le (fun a => ho (B a) (nI i)) ac) c354) | exact bs_f (p := (fun t => decide (¬ nI (ct (fun a => ho (B a) (nI t)) ac) * 2 ≤ nI ac))) (vo_f hac (ct_le (fun a => ho (B a) (nI i)) ac) c354)
                have hl := lv_sub (l' := [(7, .int (nI (i + 1))), (6, .int ((nI (pw i)) * 2)), (5, .int (sur (ct (fun k => zz U Z nc k) (pw tc)) (fun t => decide (nI (ct (fun j => ho (nI (el (fun k => zz U Z nc k) (pw tc) j)) (nI t)) (ct (fun k => zz U Z nc k) (pw tc))) = nI (ct (fun k => zz U Z nc k) (pw tc)))) i)), (4, .int ((nI (bs (fun t => decide (¬ nI (ct (fun a => ho (B a) (nI t)) ac) * 2 ≤ nI ac)) i)) + (nI (pw i)))), (3, .int (nI (ct Z nc))), (2, .ref q2), (0, .ref (r 0)), (1, .ref (q 0))]) hl [0, 1, 9, 2, 10, 11, 12, 13] rfl
                rw [e6, e5, e4] at hl
                exact ih ls hlt trivial hl
              · skip
                refine lv_iload hx hb dX1_isSame_376 (lv_at hl 9 rfl) ?_
                refine lv_iload hx hb dX1_isSame_378 (lv_at hl 8 rfl) ?_
                refine lv_iadd hx hb dX1_isSame_380 ?_
                refine lv_istore (lv' := [(5, .int ((sur (ct (fun k => zz U Z nc k) (pw tc)) (fun t => decide (nI (ct (fun j => ho (nI (el (fun k => zz U Z nc k) (pw tc) j)) (nI t)) (ct (fun k => zz U Z nc k) (pw tc))) = nI (ct (fun k => zz U Z nc k) (pw tc)))) i) + (nI (pw i)))), (4, .int ((nI (bs (fun t => decide (¬ nI (ct (fun a => ho (B a) (nI t)) ac) * 2 ≤ nI ac)) i)) + (nI (pw i)))), (13, .int (nI nc)), (12, .int (nI nc)), (11, .ref (r 1)), (10, .int (nI (ct (fun j => Z j && ho (U j) (nI i)) nc))), (9, .int (nI (ct (fun j => ho (U j) (nI i)) nc))), (8, .int (nI (ct (fun j => ho (nI (el (fun k => zz U Z nc k) (pw tc) j)) (nI i)) (ct (fun k => zz U Z nc k) (pw tc))))), (7, .int (nI i)), (6, .int (nI (pw i))), (3, .int (nI (ct Z nc))), (2, .ref q2), (0, .ref (r 0)), (1, .ref (q 0))]) hx hb dX1_isSame_381 hl (by decide) rfl (fun ls hl => ?_)
                refine lv_iload hx hb dX1_isSame_383 (lv_at hl 9 rfl) ?_
                refine lv_iconst (v := 2) hx hb dX1_isSame_385 (by decide) ?_
                refine lv_imul hx hb dX1_isSame_386 ?_
                refine lv_istore (lv' := [(6, .int ((nI (pw i)) * 2)), (5, .int ((sur (ct (fun k => zz U Z nc k) (pw tc)) (fun t => decide (nI (ct (fun j => ho (nI (el (fun k => zz U Z nc k) (pw tc) j)) (nI t)) (ct (fun k => zz U Z nc k) (pw tc))) = nI (ct (fun k => zz U Z nc k) (pw tc)))) i) + (nI (pw i)))), (4, .int ((nI (bs (fun t => decide (¬ nI (ct (fun a => ho (B a) (nI t)) ac) * 2 ≤ nI ac)) i)) + (nI (pw i)))), (13, .int (nI nc)), (12, .int (nI nc)), (11, .ref (r 1)), (10, .int (nI (ct (fun j => Z j && ho (U j) (nI i)) nc))), (9, .int (nI (ct (fun j => ho (U j) (nI i)) nc))), (8, .int (nI (ct (fun j => ho (nI (el (fun k => zz U Z nc k) (pw tc) j)) (nI i)) (ct (fun k => zz U Z nc k) (pw tc))))), (7, .int (nI i)), (3, .int (nI (ct Z nc))), (2, .ref q2), (0, .ref (r 0)), (1, .ref (q 0))]) hx hb dX1_isSame_387 hl (by decide) rfl (fun ls hl => ?_)
                refine lv_iinc (v := nI (i + 1)) (lv' := [(7, .int (nI (i + 1))), (6, .int ((nI (pw i)) * 2)), (5, .int ((sur (ct (fun k => zz U Z nc k) (pw tc)) (fun t => decide (nI (ct (fun j => ho (nI (el (fun k => zz U Z nc k) (pw tc) j)) (nI t)) (ct (fun k => zz U Z nc k) (pw tc))) = nI (ct (fun k => zz U Z nc k) (pw tc)))) i) + (nI (pw i)))), (4, .int ((nI (bs (fun t => decide (¬ nI (ct (fun a => ho (B a) (nI t)) ac) * 2 ≤ nI ac)) i)) + (nI (pw i)))), (13, .int (nI nc)), (12, .int (nI nc)), (11, .ref (r 1)), (10, .int (nI (ct (fun j => Z j && ho (U j) (nI i)) nc))), (9, .int (nI (ct (fun j => ho (U j) (nI i)) nc))), (8, .int (nI (ct (fun j => ho (nI (el (fun k => zz U Z nc k) (pw tc) j)) (nI i)) (ct (fun k => zz U Z nc k) (pw tc))))), (3, .int (nI (ct Z nc))), (2, .ref q2), (0, .ref (r 0)), (1, .ref (q 0))]) hx hb dX1_isSame_389 hl (k := 9) rfl (nI_1 _) (by decide) rfl (fun ls hl => ?_)
                refine lv_goto (tgt := 106) hx hb dX1_isSame_392 (by decide) ?_
                have e6 : ((nI (pw i)) * 2) = nI (pw (i + 1)) := pw_s i
                have e5 : ((sur (ct (fun k => zz U Z nc k) (pw tc)) (fun t => decide (nI (ct (fun j => ho (nI (el (fun k => zz U Z nc k) (pw tc) j)) (nI t)) (ct (fun k => zz U Z nc k) (pw tc))) = nI (ct (fun k => zz U Z nc k) (pw tc)))) i) + (nI (pw i))) = sur (ct (fun k => zz U Z nc k) (pw tc)) (fun t => decide (nI (ct (fun j => ho (nI (el (fun k => zz U Z nc k) (pw tc) j)) (nI t)) (ct (fun k => zz U Z nc k) (pw tc))) = nI (ct (fun k => zz U Z nc k) (pw tc)))) (i + 1) := by first | exact sur_z (by omega) c366 | exact sur_f (p := (fun t => decide (nI (ct (fun j => ho (nI (el (fun k => zz U Z nc k) (pw tc) j)) (nI t)) (ct (fun k => zz U Z nc k) (pw tc))) = nI (ct (fun k => zz U Z nc k) (pw tc))))) (decide_eq_false c373) | exact sur_t (p := (fun t => decide (nI (ct (fun j => ho (nI (el (fun k => zz U Z nc k) (pw tc) j)) (nI t)) (ct (fun k => zz U Z nc k) (pw tc))) = nI (ct (fun k => zz U Z nc k) (pw tc))))) c366 (decide_eq_true c373)
                have e4 : ((nI (bs (fun t => decide (¬ nI (ct (fun a => ho (B a) (nI t)) ac) * 2 ≤ nI ac)) i)) + (nI (pw i))) = nI (bs (fun t => decide (¬ nI (ct (fun a => ho (B a) (nI t)) ac) * 2 ≤ nI ac)) (i + 1)) := by first | exact bs_t (p := (fun t => decide (¬ nI (ct (fun a => ho (B a) (nI t)) ac) * 2 ≤ nI ac))) (vo_t hac (ct_le (fun a => ho (B a) (nI i)) ac) c354) | exact bs_f (p := (fun t => decide (¬ nI (ct (fun a => ho (B a) (nI t)) ac) * 2 ≤ nI ac))) (vo_f hac (ct_le (fun a => ho (B a) (nI i)) ac) c354)
                have hl := lv_sub (l' := [(7, .int (nI (i + 1))), (6, .int ((nI (pw i)) * 2)), (5, .int ((sur (ct (fun k => zz U Z nc k) (pw tc)) (fun t => decide (nI (ct (fun j => ho (nI (el (fun k => zz U Z nc k) (pw tc) j)) (nI t)) (ct (fun k => zz U Z nc k) (pw tc))) = nI (ct (fun k => zz U Z nc k) (pw tc)))) i) + (nI (pw i)))), (4, .int ((nI (bs (fun t => decide (¬ nI (ct (fun a => ho (B a) (nI t)) ac) * 2 ≤ nI ac)) i)) + (nI (pw i)))), (3, .int (nI (ct Z nc))), (2, .ref q2), (0, .ref (r 0)), (1, .ref (q 0))]) hl [0, 1, 2, 3, 10, 11, 12, 13] rfl
                rw [e6, e5, e4] at hl
                exact ih ls hlt trivial hl
        · skip
          have hlt9 : jj < nc := gd_ge_f hi9 c193
          refine lv_aload hx hb dX1_isSame_196 (lv_at hl 2 rfl) ?_
          refine lv_iload hx hb dX1_isSame_198 (lv_at hl 0 rfl) ?_
          refine ra_ld hx hb hK hP 1 1 rfl rfl (j := jj) rfl (hlt9) (by omega) dX1_isSame_200 ?_
          refine lv_astore (lv' := [(14, .ref (nr jj)), (13, .int (nI jj)), (12, .int (nI nc)), (11, .ref (r 1)), (10, .int (nI (ct (fun j => Z j && ho (U j) (nI i)) jj))), (9, .int (nI (ct (fun j => ho (U j) (nI i)) jj))), (8, .int (nI (ct (fun j => ho (nI (el (fun k => zz U Z nc k) (pw tc) j)) (nI i)) (ct (fun k => zz U Z nc k) (pw tc))))), (7, .int (nI i)), (6, .int (nI (pw i))), (5, .int (sur (ct (fun k => zz U Z nc k) (pw tc)) (fun t => decide (nI (ct (fun j => ho (nI (el (fun k => zz U Z nc k) (pw tc) j)) (nI t)) (ct (fun k => zz U Z nc k) (pw tc))) = nI (ct (fun k => zz U Z nc k) (pw tc)))) i)), (4, .int (nI (bs (fun t => decide (¬ nI (ct (fun a => ho (B a) (nI t)) ac) * 2 ≤ nI ac)) i))), (3, .int (nI (ct Z nc))), (2, .ref q2), (0, .ref (r 0)), (1, .ref (q 0))]) hx hb dX1_isSame_201 hl (by decide) rfl (fun ls hl => ?_)
          refine lv_iload hx hb dX1_isSame_203 (lv_at hl 5 rfl) ?_
          refine lv_aload hx hb dX1_isSame_205 (lv_at hl 0 rfl) ?_
          refine lv_iconst (v := 0) hx hb dX1_isSame_207 (by decide) ?_
          refine rn_0 hx hb hK hP (j := jj) (hlt9) dX1_isSame_208 ?_
          refine lv_iload hx hb dX1_isSame_209 (lv_at hl 7 rfl) ?_
          refine pcS_i (As := [.int (U jj), .int (nI i)]) (rest := [.int (nI (ct (fun j => ho (U j) (nI i)) jj))]) ⟨hx, hb, hml, hown, hts⟩ (g_S_isInV l (v := (U jj)) (t := i) htc (hU jj) hlt) (va_cwS 2 hts gX1_isSame_X1_isIn rfl rfl rfl hdX1_isIn ⟨Nat.le_of_ble_eq_true rfl, Nat.le_of_ble_eq_true rfl⟩) rfl hl.1 (Nat.le_of_ble_eq_true rfl) rfl dX1_isSame_211 ⟨Nat.le_of_ble_eq_true rfl, Nat.le_of_ble_eq_true rfl⟩ ?_
          refine lv_bb (t0 := 221) hx hb dX1_isSame_214 dX1_isSame_217 dX1_isSame_218 dX1_isSame_221 (by decide) (by decide) ?_
          refine lv_iadd hx hb dX1_isSame_222 ?_
          refine lv_istore (lv' := [(9, .int ((nI (ct (fun j => ho (U j) (nI i)) jj)) + (bI (ho (U jj) (nI i))))), (14, .ref (nr jj)), (13, .int (nI jj)), (12, .int (nI nc)), (11, .ref (r 1)), (10, .int (nI (ct (fun j => Z j && ho (U j) (nI i)) jj))), (8, .int (nI (ct (fun j => ho (nI (el (fun k => zz U Z nc k) (pw tc) j)) (nI i)) (ct (fun k => zz U Z nc k) (pw tc))))), (7, .int (nI i)), (6, .int (nI (pw i))), (5, .int (sur (ct (fun k => zz U Z nc k) (pw tc)) (fun t => decide (nI (ct (fun j => ho (nI (el (fun k => zz U Z nc k) (pw tc) j)) (nI t)) (ct (fun k => zz U Z nc k) (pw tc))) = nI (ct (fun k => zz U Z nc k) (pw tc)))) i)), (4, .int (nI (bs (fun t => decide (¬ nI (ct (fun a => ho (B a) (nI t)) ac) * 2 ≤ nI ac)) i))), (3, .int (nI (ct Z nc))), (2, .ref q2), (0, .ref (r 0)), (1, .ref (q 0))]) hx hb dX1_isSame_223 hl (by decide) rfl (fun ls hl => ?_)
          refine lv_iload hx hb dX1_isSame_225 (lv_at hl 5 rfl) ?_
          refine lv_aload hx hb dX1_isSame_227 (lv_at hl 1 rfl) ?_
          refine lv_iconst (v := 0) hx hb dX1_isSame_229 (by decide) ?_
          refine rn_0 hx hb hK hP (j := jj) (hlt9) dX1_isSame_230 ?_
          refine lv_iload hx hb dX1_isSame_231 (lv_at hl 7 rfl) ?_
          refine pcS_i (As := [.int (U jj), .int (nI i)]) (rest := [.int (nI (ct (fun j => Z j && ho (U j) (nI i)) jj))]) ⟨hx, hb, hml, hown, hts⟩ (g_S_isInV l (v := (U jj)) (t := i) htc (hU jj) hlt) (va_cwS 2 hts gX1_isSame_X1_isIn rfl rfl rfl hdX1_isIn ⟨Nat.le_of_ble_eq_true rfl, Nat.le_of_ble_eq_true rfl⟩) rfl hl.1 (Nat.le_of_ble_eq_true rfl) rfl dX1_isSame_233 ⟨Nat.le_of_ble_eq_true rfl, Nat.le_of_ble_eq_true rfl⟩ ?_
          refine lv_ifb_eq (tgt := 246) hx hb dX1_isSame_236 (by decide) (fun c236 => ?_) (fun c236 => ?_)
          · skip
            refine lv_iconst (v := 0) hx hb dX1_isSame_246 (by decide) ?_
            refine lv_iadd hx hb dX1_isSame_247 ?_
            refine lv_istore (lv' := [(10, .int ((nI (ct (fun j => Z j && ho (U j) (nI i)) jj)) + 0)), (9, .int ((nI (ct (fun j => ho (U j) (nI i)) jj)) + (bI (ho (U jj) (nI i))))), (14, .ref (nr jj)), (13, .int (nI jj)), (12, .int (nI nc)), (11, .ref (r 1)), (8, .int (nI (ct (fun j => ho (nI (el (fun k => zz U Z nc k) (pw tc) j)) (nI i)) (ct (fun k => zz U Z nc k) (pw tc))))), (7, .int (nI i)), (6, .int (nI (pw i))), (5, .int (sur (ct (fun k => zz U Z nc k) (pw tc)) (fun t => decide (nI (ct (fun j => ho (nI (el (fun k => zz U Z nc k) (pw tc) j)) (nI t)) (ct (fun k => zz U Z nc k) (pw tc))) = nI (ct (fun k => zz U Z nc k) (pw tc)))) i)), (4, .int (nI (bs (fun t => decide (¬ nI (ct (fun a => ho (B a) (nI t)) ac) * 2 ≤ nI ac)) i))), (3, .int (nI (ct Z nc))), (2, .ref q2), (0, .ref (r 0)), (1, .ref (q 0))]) hx hb dX1_isSame_248 hl (by decide) rfl (fun ls hl => ?_)
            refine lv_iinc (v := nI (jj + 1)) (lv' := [(13, .int (nI (jj + 1))), (10, .int ((nI (ct (fun j => Z j && ho (U j) (nI i)) jj)) + 0)), (9, .int ((nI (ct (fun j => ho (U j) (nI i)) jj)) + (bI (ho (U jj) (nI i))))), (14, .ref (nr jj)), (12, .int (nI nc)), (11, .ref (r 1)), (8, .int (nI (ct (fun j => ho (nI (el (fun k => zz U Z nc k) (pw tc) j)) (nI i)) (ct (fun k => zz U Z nc k) (pw tc))))), (7, .int (nI i)), (6, .int (nI (pw i))), (5, .int (sur (ct (fun k => zz U Z nc k) (pw tc)) (fun t => decide (nI (ct (fun j => ho (nI (el (fun k => zz U Z nc k) (pw tc) j)) (nI t)) (ct (fun k => zz U Z nc k) (pw tc))) = nI (ct (fun k => zz U Z nc k) (pw tc)))) i)), (4, .int (nI (bs (fun t => decide (¬ nI (ct (fun a => ho (B a) (nI t)) ac) * 2 ≤ nI ac)) i))), (3, .int (nI (ct Z nc))), (2, .ref q2), (0, .ref (r 0)), (1, .ref (q 0))]) hx hb dX1_isSame_250 hl (k := 3) rfl (nI_1 _) (by decide) rfl (fun ls hl => ?_)
            refine lv_goto (tgt := 189) hx hb dX1_isSame_253 (by decide) ?_
            have e10 : ((nI (ct (fun j => Z j && ho (U j) (nI i)) jj)) + 0) = nI (ct (fun j => Z j && ho (U j) (nI i)) (jj + 1)) := by first | exact zb_t c236 | exact zb_f c236
            have e9 : ((nI (ct (fun j => ho (U j) (nI i)) jj)) + (bI (ho (U jj) (nI i)))) = nI (ct (fun j => ho (U j) (nI i)) (jj + 1)) := ct_bI (fun j => ho (U j) (nI i)) jj
            have hl := lv_sub (l' := [(13, .int (nI (jj + 1))), (12, .int (nI nc)), (11, .ref (r 1)), (10, .int ((nI (ct (fun j => Z j && ho (U j) (nI i)) jj)) + 0)), (9, .int ((nI (ct (fun j => ho (U j) (nI i)) jj)) + (bI (ho (U jj) (nI i))))), (8, .int (nI (ct (fun j => ho (nI (el (fun k => zz U Z nc k) (pw tc) j)) (nI i)) (ct (fun k => zz U Z nc k) (pw tc))))), (7, .int (nI i)), (6, .int (nI (pw i))), (5, .int (sur (ct (fun k => zz U Z nc k) (pw tc)) (fun t => decide (nI (ct (fun j => ho (nI (el (fun k => zz U Z nc k) (pw tc) j)) (nI t)) (ct (fun k => zz U Z nc k) (pw tc))) = nI (ct (fun k => zz U Z nc k) (pw tc)))) i)), (4, .int (nI (bs (fun t => decide (¬ nI (ct (fun a => ho (B a) (nI t)) ac) * 2 ≤ nI ac)) i))), (3, .int (nI (ct Z nc))), (2, .ref q2), (0, .ref (r 0)), (1, .ref (q 0))]) hl [0, 4, 5, 1, 2, 6, 7, 8, 9, 10, 11, 12, 13, 14] rfl
            rw [e10, e9] at hl
            exact ih9 ls hlt9 trivial hl
          · skip
            refine lv_aload hx hb dX1_isSame_239 (lv_at hl 1 rfl) ?_
            refine lv_iconst (v := 1) hx hb dX1_isSame_241 (by decide) ?_
            refine rn_1 hx hb hK hP (j := jj) (hlt9) dX1_isSame_242 ?_
            refine lv_goto (tgt := 247) hx hb dX1_isSame_243 (by decide) ?_
            refine lv_iadd hx hb dX1_isSame_247 ?_
            refine lv_istore (lv' := [(10, .int ((nI (ct (fun j => Z j && ho (U j) (nI i)) jj)) + (bI (Z jj)))), (9, .int ((nI (ct (fun j => ho (U j) (nI i)) jj)) + (bI (ho (U jj) (nI i))))), (14, .ref (nr jj)), (13, .int (nI jj)), (12, .int (nI nc)), (11, .ref (r 1)), (8, .int (nI (ct (fun j => ho (nI (el (fun k => zz U Z nc k) (pw tc) j)) (nI i)) (ct (fun k => zz U Z nc k) (pw tc))))), (7, .int (nI i)), (6, .int (nI (pw i))), (5, .int (sur (ct (fun k => zz U Z nc k) (pw tc)) (fun t => decide (nI (ct (fun j => ho (nI (el (fun k => zz U Z nc k) (pw tc) j)) (nI t)) (ct (fun k => zz U Z nc k) (pw tc))) = nI (ct (fun k => zz U Z nc k) (pw tc)))) i)), (4, .int (nI (bs (fun t => decide (¬ nI (ct (fun a => ho (B a) (nI t)) ac) * 2 ≤ nI ac)) i))), (3, .int (nI (ct Z nc))), (2, .ref q2), (0, .ref (r 0)), (1, .ref (q 0))]) hx hb dX1_isSame_248 hl (by decide) rfl (fun ls hl => ?_)
            refine lv_iinc (v := nI (jj + 1)) (lv' := [(13, .int (nI (jj + 1))), (10, .int ((nI (ct (fun j => Z j && ho (U j) (nI i)) jj)) + (bI (Z jj)))), (9, .int ((nI (ct (fun j => ho (U j) (nI i)) jj)) + (bI (ho (U jj) (nI i))))), (14, .ref (nr jj)), (12, .int (nI nc)), (11, .ref (r 1)), (8, .int (nI (ct (fun j => ho (nI (el (fun k => zz U Z nc k) (pw tc) j)) (nI i)) (ct (fun k => zz U Z nc k) (pw tc))))), (7, .int (nI i)), (6, .int (nI (pw i))), (5, .int (sur (ct (fun k => zz U Z nc k) (pw tc)) (fun t => decide (nI (ct (fun j => ho (nI (el (fun k => zz U Z nc k) (pw tc) j)) (nI t)) (ct (fun k => zz U Z nc k) (pw tc))) = nI (ct (fun k => zz U Z nc k) (pw tc)))) i)), (4, .int (nI (bs (fun t => decide (¬ nI (ct (fun a => ho (B a) (nI t)) ac) * 2 ≤ nI ac)) i))), (3, .int (nI (ct Z nc))), (2, .ref q2), (0, .ref (r 0)), (1, .ref (q 0))]) hx hb dX1_isSame_250 hl (k := 3) rfl (nI_1 _) (by decide) rfl (fun ls hl => ?_)
            refine lv_goto (tgt := 189) hx hb dX1_isSame_253 (by decide) ?_
            have e10 : ((nI (ct (fun j => Z j && ho (U j) (nI i)) jj)) + (bI (Z jj))) = nI (ct (fun j => Z j && ho (U j) (nI i)) (jj + 1)) := by first | exact zb_t c236 | exact zb_f c236
            have e9 : ((nI (ct (fun j => ho (U j) (nI i)) jj)) + (bI (ho (U jj) (nI i)))) = nI (ct (fun j => ho (U j) (nI i)) (jj + 1)) := ct_bI (fun j => ho (U j) (nI i)) jj
            have hl := lv_sub (l' := [(13, .int (nI (jj + 1))), (12, .int (nI nc)), (11, .ref (r 1)), (10, .int ((nI (ct (fun j => Z j && ho (U j) (nI i)) jj)) + (bI (Z jj)))), (9, .int ((nI (ct (fun j => ho (U j) (nI i)) jj)) + (bI (ho (U jj) (nI i))))), (8, .int (nI (ct (fun j => ho (nI (el (fun k => zz U Z nc k) (pw tc) j)) (nI i)) (ct (fun k => zz U Z nc k) (pw tc))))), (7, .int (nI i)), (6, .int (nI (pw i))), (5, .int (sur (ct (fun k => zz U Z nc k) (pw tc)) (fun t => decide (nI (ct (fun j => ho (nI (el (fun k => zz U Z nc k) (pw tc) j)) (nI t)) (ct (fun k => zz U Z nc k) (pw tc))) = nI (ct (fun k => zz U Z nc k) (pw tc)))) i)), (4, .int (nI (bs (fun t => decide (¬ nI (ct (fun a => ho (B a) (nI t)) ac) * 2 ≤ nI ac)) i))), (3, .int (nI (ct Z nc))), (2, .ref q2), (0, .ref (r 0)), (1, .ref (q 0))]) hl [0, 4, 5, 1, 2, 6, 7, 8, 9, 10, 11, 12, 13, 14] rfl
            rw [e10, e9] at hl
            exact ih9 ls hlt9 trivial hl
      · skip
        have hlt9 : jj < ct (fun k => zz U Z nc k) (pw tc) := gd_ge_f hi9 c139
        refine lv_aload hx hb dX1_isSame_142 (lv_at hl 2 rfl) ?_
        refine lv_iload hx hb dX1_isSame_144 (lv_at hl 0 rfl) ?_
        refine ia_ld hx hb hK hE 0 0 rfl rfl (j := jj) (hlt9) (by omega) dX1_isSame_146 ?_
        refine lv_istore (lv' := [(14, .int (nI (el (fun k => zz U Z nc k) (pw tc) jj))), (13, .int (nI jj)), (12, .int (nI (ct (fun k => zz U Z nc k) (pw tc)))), (11, .ref q2), (10, .int 0), (9, .int 0), (8, .int (nI (ct (fun j => ho (nI (el (fun k => zz U Z nc k) (pw tc) j)) (nI i)) jj))), (7, .int (nI i)), (6, .int (nI (pw i))), (5, .int (sur (ct (fun k => zz U Z nc k) (pw tc)) (fun t => decide (nI (ct (fun j => ho (nI (el (fun k => zz U Z nc k) (pw tc) j)) (nI t)) (ct (fun k => zz U Z nc k) (pw tc))) = nI (ct (fun k => zz U Z nc k) (pw tc)))) i)), (4, .int (nI (bs (fun t => decide (¬ nI (ct (fun a => ho (B a) (nI t)) ac) * 2 ≤ nI ac)) i))), (3, .int (nI (ct Z nc))), (2, .ref q2), (0, .ref (r 0)), (1, .ref (q 0))]) hx hb dX1_isSame_147 hl (by decide) rfl (fun ls hl => ?_)
        refine lv_iload hx hb dX1_isSame_149 (lv_at hl 6 rfl) ?_
        refine lv_iload hx hb dX1_isSame_151 (lv_at hl 0 rfl) ?_
        refine lv_iload hx hb dX1_isSame_153 (lv_at hl 7 rfl) ?_
        refine pcS_i (As := [.int (nI (el (fun k => zz U Z nc k) (pw tc) jj)), .int (nI i)]) (rest := [.int (nI (ct (fun j => ho (nI (el (fun k => zz U Z nc k) (pw tc) j)) (nI i)) jj))]) ⟨hx, hb, hml, hown, hts⟩ (g_S_isInV l (v := (nI (el (fun k => zz U Z nc k) (pw tc) jj))) (t := i) htc (⟨_, (el_in hlt9).1, rfl⟩) hlt) (va_cwS 2 hts gX1_isSame_X1_isIn rfl rfl rfl hdX1_isIn ⟨Nat.le_of_ble_eq_true rfl, Nat.le_of_ble_eq_true rfl⟩) rfl hl.1 (Nat.le_of_ble_eq_true rfl) rfl dX1_isSame_155 ⟨Nat.le_of_ble_eq_true rfl, Nat.le_of_ble_eq_true rfl⟩ ?_
        refine lv_bb (t0 := 165) hx hb dX1_isSame_158 dX1_isSame_161 dX1_isSame_162 dX1_isSame_165 (by decide) (by decide) ?_
        refine lv_iadd hx hb dX1_isSame_166 ?_
        refine lv_istore (lv' := [(8, .int ((nI (ct (fun j => ho (nI (el (fun k => zz U Z nc k) (pw tc) j)) (nI i)) jj)) + (bI (ho (nI (el (fun k => zz U Z nc k) (pw tc) jj)) (nI i))))), (14, .int (nI (el (fun k => zz U Z nc k) (pw tc) jj))), (13, .int (nI jj)), (12, .int (nI (ct (fun k => zz U Z nc k) (pw tc)))), (11, .ref q2), (10, .int 0), (9, .int 0), (7, .int (nI i)), (6, .int (nI (pw i))), (5, .int (sur (ct (fun k => zz U Z nc k) (pw tc)) (fun t => decide (nI (ct (fun j => ho (nI (el (fun k => zz U Z nc k) (pw tc) j)) (nI t)) (ct (fun k => zz U Z nc k) (pw tc))) = nI (ct (fun k => zz U Z nc k) (pw tc)))) i)), (4, .int (nI (bs (fun t => decide (¬ nI (ct (fun a => ho (B a) (nI t)) ac) * 2 ≤ nI ac)) i))), (3, .int (nI (ct Z nc))), (2, .ref q2), (0, .ref (r 0)), (1, .ref (q 0))]) hx hb dX1_isSame_167 hl (by decide) rfl (fun ls hl => ?_)
        refine lv_iinc (v := nI (jj + 1)) (lv' := [(13, .int (nI (jj + 1))), (8, .int ((nI (ct (fun j => ho (nI (el (fun k => zz U Z nc k) (pw tc) j)) (nI i)) jj)) + (bI (ho (nI (el (fun k => zz U Z nc k) (pw tc) jj)) (nI i))))), (14, .int (nI (el (fun k => zz U Z nc k) (pw tc) jj))), (12, .int (nI (ct (fun k => zz U Z nc k) (pw tc)))), (11, .ref q2), (10, .int 0), (9, .int 0), (7, .int (nI i)), (6, .int (nI (pw i))), (5, .int (sur (ct (fun k => zz U Z nc k) (pw tc)) (fun t => decide (nI (ct (fun j => ho (nI (el (fun k => zz U Z nc k) (pw tc) j)) (nI t)) (ct (fun k => zz U Z nc k) (pw tc))) = nI (ct (fun k => zz U Z nc k) (pw tc)))) i)), (4, .int (nI (bs (fun t => decide (¬ nI (ct (fun a => ho (B a) (nI t)) ac) * 2 ≤ nI ac)) i))), (3, .int (nI (ct Z nc))), (2, .ref q2), (0, .ref (r 0)), (1, .ref (q 0))]) hx hb dX1_isSame_169 hl (k := 2) rfl (nI_1 _) (by decide) rfl (fun ls hl => ?_)
        refine lv_goto (tgt := 135) hx hb dX1_isSame_172 (by decide) ?_
        have e8 : ((nI (ct (fun j => ho (nI (el (fun k => zz U Z nc k) (pw tc) j)) (nI i)) jj)) + (bI (ho (nI (el (fun k => zz U Z nc k) (pw tc) jj)) (nI i)))) = nI (ct (fun j => ho (nI (el (fun k => zz U Z nc k) (pw tc) j)) (nI i)) (jj + 1)) := ct_bI (fun j => ho (nI (el (fun k => zz U Z nc k) (pw tc) j)) (nI i)) jj
        have hl := lv_sub (l' := [(13, .int (nI (jj + 1))), (12, .int (nI (ct (fun k => zz U Z nc k) (pw tc)))), (11, .ref q2), (10, .int 0), (9, .int 0), (8, .int ((nI (ct (fun j => ho (nI (el (fun k => zz U Z nc k) (pw tc) j)) (nI i)) jj)) + (bI (ho (nI (el (fun k => zz U Z nc k) (pw tc) jj)) (nI i))))), (7, .int (nI i)), (6, .int (nI (pw i))), (5, .int (sur (ct (fun k => zz U Z nc k) (pw tc)) (fun t => decide (nI (ct (fun j => ho (nI (el (fun k => zz U Z nc k) (pw tc) j)) (nI t)) (ct (fun k => zz U Z nc k) (pw tc))) = nI (ct (fun k => zz U Z nc k) (pw tc)))) i)), (4, .int (nI (bs (fun t => decide (¬ nI (ct (fun a => ho (B a) (nI t)) ac) * 2 ≤ nI ac)) i))), (3, .int (nI (ct Z nc))), (2, .ref q2), (0, .ref (r 0)), (1, .ref (q 0))]) hl [0, 3, 4, 5, 6, 1, 7, 8, 9, 10, 11, 12, 13, 14] rfl
        rw [e8] at hl
        exact ih9 ls hlt9 trivial hl
  · skip
    have hlt : i < nc := gd_ge_f hi c17
    refine lv_aload_n hx hb dX1_isSame_20 rfl (lv_at hl 4 rfl) ?_
    refine lv_iload hx hb dX1_isSame_21 (lv_at hl 0 rfl) ?_
    refine pcV_i (As := [.int (nI i)]) (rest := []) ⟨hx, hb, hml, hown, hts⟩ (g_X_usedIn l hPX htc hnc hac (t := i) hlt) (cwV 1 hts gX1_isSame_X0_usedIn rfl rfl rfl hdX0_usedIn ⟨Nat.le_of_ble_eq_true rfl, Nat.le_of_ble_eq_true rfl⟩) (va_recv hKX hPX (ci := 0) (q0 := 0) rfl rfl) hKX rfl hl.1 (Nat.le_of_ble_eq_true rfl) rfl dX1_isSame_23 ⟨Nat.le_of_ble_eq_true rfl, Nat.le_of_ble_eq_true rfl⟩ ?_
    refine lv_aload_n hx hb dX1_isSame_26 rfl (lv_at hl 3 rfl) ?_
    refine va_get (D := D) (ci := 1) (v := .ref (r 1)) (C := RX1) (T := TX1) (N := 4) hx hb hts hin hown hK hP 0 rfl rfl 1 (by decide) (hts (.fieldLink RX1 9 "SmudgedStarLaw$Sim" "nights" "[[I") (List.mem_of_getElem? (i := 1) rfl)) (fun _ h9 => h9) rfl dX1_isSame_27 ?_
    refine lv_iload hx hb dX1_isSame_30 (lv_at hl 0 rfl) ?_
    refine ra_ld hx hb hK hP 1 1 rfl rfl (j := i) rfl (hlt) (by omega) dX1_isSame_32 ?_
    refine lv_iconst (v := 0) hx hb dX1_isSame_33 (by decide) ?_
    refine rn_0 hx hb hK hP (j := i) (hlt) dX1_isSame_34 ?_
    refine lv_icmp_ne (tgt := 65) hx hb dX1_isSame_35 (by decide) (fun c35 => absurd rfl c35) (fun c35 => ?_)
    refine lv_aload_n hx hb dX1_isSame_38 rfl (lv_at hl 4 rfl) ?_
    refine lv_iload hx hb dX1_isSame_39 (lv_at hl 0 rfl) ?_
    refine pcV_i (As := [.int (nI i)]) (rest := []) ⟨hx, hb, hml, hown, hts⟩ (g_X_isSmudged l hPX htc hnc hac (t := i) hlt) (cwV 1 hts gX1_isSame_X0_isSmudged rfl rfl rfl hdX0_isSmudged ⟨Nat.le_of_ble_eq_true rfl, Nat.le_of_ble_eq_true rfl⟩) (va_recv hKX hPX (ci := 0) (q0 := 0) rfl rfl) hKX rfl hl.1 (Nat.le_of_ble_eq_true rfl) rfl dX1_isSame_41 ⟨Nat.le_of_ble_eq_true rfl, Nat.le_of_ble_eq_true rfl⟩ ?_
    refine lv_aload_n hx hb dX1_isSame_44 rfl (lv_at hl 3 rfl) ?_
    refine va_get (D := D) (ci := 1) (v := .ref (r 1)) (C := RX1) (T := TX1) (N := 4) hx hb hts hin hown hK hP 0 rfl rfl 1 (by decide) (hts (.fieldLink RX1 9 "SmudgedStarLaw$Sim" "nights" "[[I") (List.mem_of_getElem? (i := 1) rfl)) (fun _ h9 => h9) rfl dX1_isSame_45 ?_
    refine lv_iload hx hb dX1_isSame_48 (lv_at hl 0 rfl) ?_
    refine ra_ld hx hb hK hP 1 1 rfl rfl (j := i) rfl (hlt) (by omega) dX1_isSame_50 ?_
    refine lv_iconst (v := 1) hx hb dX1_isSame_51 (by decide) ?_
    refine rn_1 hx hb hK hP (j := i) (hlt) dX1_isSame_52 ?_
    refine lv_iconst (v := 1) hx hb dX1_isSame_53 (by decide) ?_
    refine lv_be (t0 := 61) hx hb dX1_isSame_54 dX1_isSame_57 dX1_isSame_58 dX1_isSame_61 (by decide) (by decide) ?_
    refine lv_cst (y := bI (Z i)) (be_1 _) ?_
    refine lv_icmp_eq (tgt := 67) hx hb dX1_isSame_62 (by decide) (fun c62 => ?_) (fun c62 => absurd rfl c62)
    refine lv_iload_n hx hb dX1_isSame_67 rfl (lv_at hl 1 rfl) ?_
    refine lv_aload_n hx hb dX1_isSame_68 rfl (lv_at hl 3 rfl) ?_
    refine va_get (D := D) (ci := 1) (v := .ref (r 1)) (C := RX1) (T := TX1) (N := 4) hx hb hts hin hown hK hP 0 rfl rfl 1 (by decide) (hts (.fieldLink RX1 9 "SmudgedStarLaw$Sim" "nights" "[[I") (List.mem_of_getElem? (i := 1) rfl)) (fun _ h9 => h9) rfl dX1_isSame_69 ?_
    refine lv_iload hx hb dX1_isSame_72 (lv_at hl 0 rfl) ?_
    refine ra_ld hx hb hK hP 1 1 rfl rfl (j := i) rfl (hlt) (by omega) dX1_isSame_74 ?_
    refine lv_iconst (v := 1) hx hb dX1_isSame_75 (by decide) ?_
    refine rn_1 hx hb hK hP (j := i) (hlt) dX1_isSame_76 ?_
    refine lv_iadd hx hb dX1_isSame_77 ?_
    refine lv_istore_n (lv' := [(3, .int ((nI (ct Z i)) + (bI (Z i)))), (4, .int (nI i)), (2, .ref q2), (0, .ref (r 0)), (1, .ref (q 0))]) hx hb dX1_isSame_78 rfl hl (by decide) rfl (fun ls hl => ?_)
    refine lv_iinc (v := nI (i + 1)) (lv' := [(4, .int (nI (i + 1))), (3, .int ((nI (ct Z i)) + (bI (Z i)))), (2, .ref q2), (0, .ref (r 0)), (1, .ref (q 0))]) hx hb dX1_isSame_79 hl (k := 1) rfl (nI_1 _) (by decide) rfl (fun ls hl => ?_)
    refine lv_goto (tgt := 10) hx hb dX1_isSame_82 (by decide) ?_
    have e3 : ((nI (ct Z i)) + (bI (Z i))) = nI (ct Z (i + 1)) := ct_bI Z i
    have hl := lv_sub (l' := [(4, .int (nI (i + 1))), (3, .int ((nI (ct Z i)) + (bI (Z i)))), (2, .ref q2), (0, .ref (r 0)), (1, .ref (q 0))]) hl [0, 1, 2, 3, 4] rfl
    rw [e3] at hl
    exact ih ls hlt trivial hl
