/-! the law's own methods -/
theorem r3_of {v : Int32} {j : Nat} (h : j < 3) : upd (upd (upd (fun _ => 0) 0 0) 1 v) 2 v j = r3 0 v v j := by
  rcases (show j = 0 ∨ j = 1 ∨ j = 2 by omega) with rfl | rfl | rfl
  · rw [pk_un (by decide), pk_un (by decide), pk_us]; rfl
  · rw [pk_un (by decide), pk_us]; rfl
  · rw [pk_us]; rfl
set_option maxHeartbeats 4000000 in
set_option maxRecDepth 100000 in
theorem w_L_act (l : Launch) {D : va_G} {cI cZ cR : ClassId} {q r nr ar : Nat → Nat} {tc nc ac : Nat} {ch : Int32} {U : Nat → Int32} {Z : Nat → Bool} {B L F : Nat → Int32} {H : Heap} (hP : va_P D vwCl (wX cI cZ q tc nc ac ch U Z B L F ++ wS cI cR r nr ar tc nc ac ch U Z B L F) H) (hD0 : va_D (fun _ => True) (wX cI cZ q tc nc ac ch U Z B L F ++ wS cI cR r nr ar tc nc ac ch U Z B L F)) (hG : Gd tc nc ac U B L F) {x : Int32} : Met l yL_act wsL_act ({ frames := 5, cells := 400, slots := 70000, locals := 124 }) (va_Pc [.ref (q 0), .ref (r 0), .int x] (rdo D vwCl (tyL cI cZ cR) H)) (va_Qi (fun r9 (_ : Unit) => r9 = 1) (fun _ t9 => XS D cI cZ cR q (r 0) (va_A (wX cI cZ q tc nc ac ch U Z B L F ++ wS cI cR r nr ar tc nc ac ch U Z B L F) H.size) t9.heap) (va_A (wX cI cZ q tc nc ac ch U Z B L F ++ wS cI cR r nr ar tc nc ac ch U Z B L F) H.size)) 400 70000 (va_A (wX cI cZ q tc nc ac ch U Z B L F ++ wS cI cR r nr ar tc nc ac ch U Z B L F) H.size) := by
  refine Met.ofW (cc := cL_act) (maxL := 6) (ret := (some .boolean)) (by decide) rfl ?_
  intro p e s m args below meth c s₁ B9 hml hv
  obtain ⟨rfl, hH, hKL, hov⟩ := hv
  subst hH
  have hx := B9.exec
  have hb := B9.bytes
  have hr := B9.returns
  have hts := atoms_spec (ws := wsL_act) B9.pre
  have hown : s.vm.findClass RL = some m.cls := findClass_of_methodNamed B9.named
  have hlocks := B9.notSynchronized
  have hin : ∀ w ∈ u_ws RX1 TX1 4, w ∈ wsL_act := fun w h => List.mem_cons_of_mem _ (List.mem_append_left _ (List.mem_append_left _ (List.mem_append_left _ (List.mem_append_left _ (List.mem_append_right _ h)))))
  have hl := lv_entry ([.ref (q 0), .ref (r 0), .int x]) (n := 6) (Nat.le_of_ble_eq_true rfl)
  rw [lg_entry_eq]
  generalize (lg_sl ([.ref (q 0), .ref (r 0), .int x]) ++ List.replicate (6 - (lg_sl ([.ref (q 0), .ref (r 0), .int x])).length) Slot.unset).toArray = ls at hl ⊢
  have hl : lv_has ls 6 [(0, .ref (q 0)), (1, .ref (r 0)), (2, .int x)] := hl
  have hD := hD0.self (sz := s.heap.size)
  generalize hAe : va_A (wX cI cZ q tc nc ac ch U Z B L F ++ wS cI cR r nr ar tc nc ac ch U Z B L F) s.heap.size = A at hD ⊢
  have hA : ∀ q : Nat, s.heap.size ≤ q → A q := fun q h => by rw [← hAe]; exact Or.inr h
  have hS : va_S A s.heap s.heap [] := va_S.rf
  have hG0 := hG
  obtain ⟨⟨htc1, htc⟩, hnc, hac, hU, hB, hL9, hF9⟩ := id hG
  have hpw := pw_in htc
  have hK : va_K D vwCl (tyS cI cR) s := hKL.sub [0, 2] rfl
  have hKX : va_K D vwCl (tyA cI cZ) s := hKL.sub [0, 1] rfl
  have hPX := P_l hP
  have hPS := P_r hP
  refine lv_iload_n hx hb dL_act_0 rfl (lv_at hl 2 rfl) ?_
  refine lv_iconst (v := 4) hx hb dL_act_1 (by decide) ?_
  refine lv_ishr hx hb dL_act_2 ?_
  refine lv_aload_n hx hb dL_act_3 rfl (lv_at hl 1 rfl) ?_
  refine pcV_i (As := []) (rest := [.int (x >>> (4 &&& 31))]) ⟨hx, hb, hml, hown, hts⟩ (g_S_sets l hPS htc hnc hac) (cwV 0 hts gL_act_X1_sets rfl rfl rfl hdX1_sets ⟨Nat.le_of_ble_eq_true rfl, Nat.le_of_ble_eq_true rfl⟩) (va_recv hK hPS (ci := 1) (q0 := 0) rfl rfl) hK rfl hl.1 (Nat.le_of_ble_eq_true rfl) rfl dL_act_4 ⟨Nat.le_of_ble_eq_true rfl, Nat.le_of_ble_eq_true rfl⟩ ?_
  refine pcS_i (As := [.int (x >>> (4 &&& 31)), .int (nI (pw tc))]) (rest := []) ⟨hx, hb, hml, hown, hts⟩ (g_L_below l (v := (x >>> (4 &&& 31))) (n := (pw tc)) (hpw.1) (by omega)) (va_cwS 2 hts gL_act_L_below rfl rfl rfl hdL_below ⟨Nat.le_of_ble_eq_true rfl, Nat.le_of_ble_eq_true rfl⟩) rfl hl.1 (Nat.le_of_ble_eq_true rfl) rfl dL_act_7 ⟨Nat.le_of_ble_eq_true rfl, Nat.le_of_ble_eq_true rfl⟩ ?_
  obtain ⟨k, hk, ek⟩ : ∃ j : Nat, j < pw tc ∧ nI (bw (x >>> (4 &&& 31)) (pw tc)) = nI j := ⟨_, bw_lt _ (hpw.1), rfl⟩
  refine lv_cst (y := nI k) ek ?_
  refine lv_istore_n (lv' := [(3, .int (nI k)), (0, .ref (q 0)), (1, .ref (r 0)), (2, .int x)]) hx hb dL_act_10 rfl hl (by decide) rfl (fun ls hl => ?_)
  refine lv_iload_n hx hb dL_act_11 rfl (lv_at hl 3 rfl) ?_
  refine lv_bipush (v := 12) hx hb dL_act_12 (by decide) ?_
  refine lv_cst (y := nI 12) rfl ?_
  refine pcS_i (As := [.int x, .int (nI 12)]) (rest := []) ⟨hx, hb, hml, hown, hts⟩ (g_L_below l (v := x) (n := 12) (by omega) (by omega)) (va_cwS 2 hts gL_act_L_below rfl rfl rfl hdL_below ⟨Nat.le_of_ble_eq_true rfl, Nat.le_of_ble_eq_true rfl⟩) rfl hl.1 (Nat.le_of_ble_eq_true rfl) rfl dL_act_14 ⟨Nat.le_of_ble_eq_true rfl, Nat.le_of_ble_eq_true rfl⟩ ?_
  obtain ⟨jj, hjj, ejj⟩ : ∃ j : Nat, j < 12 ∧ nI (bw x 12) = nI j := ⟨_, bw_lt _ (by omega), rfl⟩
  refine lv_cst (y := nI jj) ejj ?_
  rcases (show jj = 0 ∨ jj = 1 ∨ jj = 2 ∨ jj = 3 ∨ jj = 4 ∨ 4 < jj by omega) with rfl | rfl | rfl | rfl | rfl | hj5
  · refine lv_tableIn (off := 35) (tgt := 52) hx hb dL_act_17 (by decide) (by decide) rfl (by decide) ?_
    refine lv_aload_n hx hb dL_act_52 rfl (lv_at hl 2 rfl) ?_
    refine va_get (D := D) (ci := 1) (v := .int (nI tc)) (C := RX1) (T := TX1) (N := 4) hx hb hts hin hown hK hPS 0 rfl rfl 0 (by decide) (hts (.fieldLink RL 21 "SmudgedStarLaw$Sim" "things" "I") (List.mem_of_getElem? (i := 1) rfl)) (fun _ h9 => h9) rfl dL_act_53 ?_
    refine lv_bipush (v := 8) hx hb dL_act_56 (by decide) ?_
    refine lv_icmp_eq (tgt := 71) hx hb dL_act_58 (by decide) (fun c58 => ?_) (fun c58 => ?_)
    · skip
      refine lv_iconst (v := 1) hx hb dL_act_71 (by decide) ?_
      refine W.widen (k := 400) (n := 70000) (by decide) (by decide) ?_
      exact W.zret (v := 1) (ty := .boolean) hx hb hr rfl (fun t9 ht9 hW9 => ⟨⟨1, (), rfl, rfl, _, _, _, _, _, _, _, _, _, r, _, _, rfl, hG, by rw [ht9]; exact hP, hD⟩, hS.F ht9⟩) hS.2.2 dL_act_72
    · have h8 : tc < 8 := by
        rcases (show tc < 8 ∨ tc = 8 by omega) with h | h
        · exact h
        · exact absurd (by rw [h]; rfl) c58
      refine lv_iload_n hx hb dL_act_61 rfl (lv_at hl 3 rfl) ?_
      refine lv_iconst (v := 5) hx hb dL_act_62 (by decide) ?_
      refine lv_ishr hx hb dL_act_63 ?_
      refine lv_iconst (v := 3) hx hb dL_act_64 (by decide) ?_
      refine lv_cst (y := nI 3) rfl ?_
      refine pcS_i (As := [.int (x >>> (5 &&& 31)), .int (nI 3)]) (rest := []) ⟨hx, hb, hml, hown, hts⟩ (g_L_below l (v := (x >>> (5 &&& 31))) (n := 3) (by omega) (by omega)) (va_cwS 2 hts gL_act_L_below rfl rfl rfl hdL_below ⟨Nat.le_of_ble_eq_true rfl, Nat.le_of_ble_eq_true rfl⟩) rfl hl.1 (Nat.le_of_ble_eq_true rfl) rfl dL_act_65 ⟨Nat.le_of_ble_eq_true rfl, Nat.le_of_ble_eq_true rfl⟩ ?_
      refine lv_if_le (tgt := 73) hx hb dL_act_68 (by decide) (fun c68 => ?_) (fun c68 => ?_)
      · skip
        refine lv_aload_n hx hb dL_act_73 rfl (lv_at hl 2 rfl) ?_
        refine lv_dup hx hb dL_act_74 rfl ?_
        refine va_get (D := D) (ci := 1) (v := .int (nI tc)) (C := RX1) (T := TX1) (N := 4) hx hb hts hin hown hK hPS 0 rfl rfl 0 (by decide) (hts (.fieldLink RL 21 "SmudgedStarLaw$Sim" "things" "I") (List.mem_of_getElem? (i := 1) rfl)) (fun _ h9 => h9) rfl dL_act_75 ?_
        refine lv_iconst (v := 1) hx hb dL_act_78 (by decide) ?_
        refine lv_iadd hx hb dL_act_79 ?_
        refine lv_cst (y := nI (tc + 1)) (nI_1 tc) ?_
        refine va_put (D := D) (ci := 1) (v := .int (nI (tc + 1))) (ty := .int) (C := RX1) (T := TX1) (N := 4) hx hb hts hin tyX1 tyX1_ok nmX1 hown hK hP hD hS 7 rfl rfl 0 (by decide) (hts (.fieldLink RL 21 "SmudgedStarLaw$Sim" "things" "I") (List.mem_of_getElem? (i := 1) rfl)) (fun _ h9 => h9) rfl (by decide +kernel) rfl rfl (Nat.le_of_ble_eq_true rfl) dL_act_80 (fun H locs hP hD hS => ?_)
        have hP : va_P D vwCl (wX cI cZ q tc nc ac ch U Z B L F ++ wS cI cR r nr ar (tc + 1) nc ac ch U Z B L F) H := hP
        have hD : va_D A (wX cI cZ q tc nc ac ch U Z B L F ++ wS cI cR r nr ar (tc + 1) nc ac ch U Z B L F) := hD
        have hPX : va_P D vwCl (wX cI cZ q tc nc ac ch U Z B L F) H := P_l hP
        have hPS : va_P D vwCl (wS cI cR r nr ar (tc + 1) nc ac ch U Z B L F) H := P_r hP
        refine lv_aload_n hx hb dL_act_83 rfl (lv_at hl 1 rfl) ?_
        refine wcV_i (As := []) (rest := []) ⟨hx, hb, hml, hown, hts⟩ (w_X_addThing l hPX htc hnc hac (D_l hD) h8) (cwV 0 hts gL_act_X0_addThing rfl rfl rfl hdX0_addThing ⟨Nat.le_of_ble_eq_true rfl, Nat.le_of_ble_eq_true rfl⟩) (va_recv hKX hPX (ci := 0) (q0 := 0) rfl rfl) hKX hS (fr_l hD hS hA) rfl hl.1 (Nat.le_of_ble_eq_true rfl) rfl dL_act_84 ⟨Nat.le_of_ble_eq_true rfl, Nat.le_of_ble_eq_true rfl⟩ (fun H1 locs hP1 hz1 hk1 hS => ?_)
        have hP := up_l hP hD hk1 hP1
        have hD : va_D A (wX cI cZ q (tc + 1) nc ac ch U Z B L F ++ wS cI cR r nr ar (tc + 1) nc ac ch U Z B L F) := va_D_re hD rfl
        clear hP1 hk1 hz1 hPX hPS
        generalize H1 = H at hP hS ⊢
        have hP : va_P D vwCl (wX cI cZ q (tc + 1) nc ac ch U Z B L F ++ wS cI cR r nr ar (tc + 1) nc ac ch U Z B L F) H := hP
        have hPX : va_P D vwCl (wX cI cZ q (tc + 1) nc ac ch U Z B L F) H := P_l hP
        have hPS : va_P D vwCl (wS cI cR r nr ar (tc + 1) nc ac ch U Z B L F) H := P_r hP
        refine lv_aload_n hx hb dL_act_87 rfl (lv_at hl 2 rfl) ?_
        refine va_get (D := D) (ci := 1) (v := .int (nI (tc + 1))) (C := RX1) (T := TX1) (N := 4) hx hb hts hin hown hK hPS 0 rfl rfl 0 (by decide) (hts (.fieldLink RL 21 "SmudgedStarLaw$Sim" "things" "I") (List.mem_of_getElem? (i := 1) rfl)) (fun _ h9 => h9) rfl dL_act_88 ?_
        refine lv_iconst (v := 1) hx hb dL_act_91 (by decide) ?_
        refine lv_isub hx hb dL_act_92 ?_
        refine lv_icmp_ne (tgt := 100) hx hb dL_act_93 (by decide) (fun c93 => absurd (nI_sub1 tc).symm c93) (fun c93 => ?_)
        refine lv_iconst (v := 1) hx hb dL_act_96 (by decide) ?_
        refine lv_goto (tgt := 101) hx hb dL_act_97 (by decide) ?_
        refine W.widen (k := 400) (n := 70000) (by decide) (by decide) ?_
        exact W.zret (v := 1) (ty := .boolean) hx hb hr rfl (fun t9 ht9 hW9 => ⟨⟨1, (), rfl, rfl, _, _, _, _, _, _, _, _, _, r, _, _, rfl, (gd_thing hG h8), by rw [ht9]; exact hP, hD⟩, hS.F ht9⟩) hS.2.2 dL_act_101
      · skip
        refine lv_iconst (v := 1) hx hb dL_act_71 (by decide) ?_
        refine W.widen (k := 400) (n := 70000) (by decide) (by decide) ?_
        exact W.zret (v := 1) (ty := .boolean) hx hb hr rfl (fun t9 ht9 hW9 => ⟨⟨1, (), rfl, rfl, _, _, _, _, _, _, _, _, _, r, _, _, rfl, hG, by rw [ht9]; exact hP, hD⟩, hS.F ht9⟩) hS.2.2 dL_act_72
  · refine lv_tableIn (off := 85) (tgt := 102) hx hb dL_act_17 (by decide) (by decide) rfl (by decide) ?_
    refine lv_aload_n hx hb dL_act_102 rfl (lv_at hl 2 rfl) ?_
    refine va_get (D := D) (ci := 1) (v := .ref (r 2)) (C := RX1) (T := TX1) (N := 4) hx hb hts hin hown hK hPS 0 rfl rfl 2 (by decide) (hts (.fieldLink RL 30 "SmudgedStarLaw$Sim" "astronomers" "[[I") (List.mem_of_getElem? (i := 2) rfl)) (fun _ h9 => h9) rfl dL_act_103 ?_
    refine va_alen (v := nI ac) hx hb hK hPS 2 1 rfl rfl rfl dL_act_106 ?_
    refine lv_bipush (v := 8) hx hb dL_act_107 (by decide) ?_
    refine lv_icmp_ne (tgt := 114) hx hb dL_act_109 (by decide) (fun c109 => ?_) (fun c109 => ?_)
    · have h8 : ac < 8 := by
        rcases (show ac < 8 ∨ ac = 8 by omega) with h | h
        · exact h
        · exact absurd (by rw [h]; rfl) c109
      refine lv_iload_n hx hb dL_act_114 rfl (lv_at hl 3 rfl) ?_
      refine lv_iconst (v := 4) hx hb dL_act_115 (by decide) ?_
      refine lv_ishr hx hb dL_act_116 ?_
      refine lv_bipush (v := 6) hx hb dL_act_117 (by decide) ?_
      refine lv_cst (y := nI 6) rfl ?_
      refine pcS_i (As := [.int (x >>> (4 &&& 31)), .int (nI 6)]) (rest := []) ⟨hx, hb, hml, hown, hts⟩ (g_L_below l (v := (x >>> (4 &&& 31))) (n := 6) (by omega) (by omega)) (va_cwS 2 hts gL_act_L_below rfl rfl rfl hdL_below ⟨Nat.le_of_ble_eq_true rfl, Nat.le_of_ble_eq_true rfl⟩) rfl hl.1 (Nat.le_of_ble_eq_true rfl) rfl dL_act_119 ⟨Nat.le_of_ble_eq_true rfl, Nat.le_of_ble_eq_true rfl⟩ ?_
      obtain ⟨jv, hjv, ejv⟩ : ∃ j : Nat, j < 6 ∧ nI (bw (x >>> (4 &&& 31)) 6) = nI j := ⟨_, bw_lt _ (by omega), rfl⟩
      refine lv_cst (y := nI jv) ejv ?_
      refine lv_istore (lv' := [(4, .int (nI jv)), (3, .int (nI k)), (0, .ref (q 0)), (1, .ref (r 0)), (2, .int x)]) hx hb dL_act_122 hl (by decide) rfl (fun ls hl => ?_)
      refine lv_aload_n hx hb dL_act_124 rfl (lv_at hl 3 rfl) ?_
      refine lv_aload_n hx hb dL_act_125 rfl (lv_at hl 3 rfl) ?_
      refine va_get (D := D) (ci := 1) (v := .ref (r 2)) (C := RX1) (T := TX1) (N := 4) hx hb hts hin hown hK hPS 0 rfl rfl 2 (by decide) (hts (.fieldLink RL 30 "SmudgedStarLaw$Sim" "astronomers" "[[I") (List.mem_of_getElem? (i := 2) rfl)) (fun _ h9 => h9) rfl dL_act_126 ?_
      refine lv_iconst (v := 3) hx hb dL_act_129 (by decide) ?_
      refine va_newa (atype := .int) (ty := .int) (N' := 3) (a0 := (3, .inl (fun _ => 0))) hx hb (hts (.arrayClass .int) (List.mem_of_getElem? (i := 3) rfl)) rfl hK hP hD hS hA (fun _ => rfl) (by decide) rfl (Nat.le_of_ble_eq_true rfl) (Nat.le_of_ble_eq_true rfl) (Nat.le_of_ble_eq_true rfl) dL_act_130 (fun b k1 H hK1 hP hD hS => ?_)
      have e1 : cI = k1 := ty_uniq hK1 (i := 0) (j := 2) rfl rfl
      subst e1
      have hP : va_P D vwCl ((wX cI cZ q tc nc ac ch U Z B L F ++ wS cI cR r nr ar tc nc ac ch U Z B L F) ++ [(b, .inl (cI, 3, .inl (fun _ => 0)))]) H := hP
      have hD : va_D A ((wX cI cZ q tc nc ac ch U Z B L F ++ wS cI cR r nr ar tc nc ac ch U Z B L F) ++ [(b, .inl (cI, 3, .inl (fun _ => 0)))]) := hD
      have hPX : va_P D vwCl (wX cI cZ q tc nc ac ch U Z B L F) H := P_l (P_l hP)
      have hPS : va_P D vwCl (wS cI cR r nr ar tc nc ac ch U Z B L F) H := P_r (P_l hP)
      refine lv_dup hx hb dL_act_132 rfl ?_
      refine lv_iconst (v := 0) hx hb dL_act_133 (by decide) ?_
      refine lv_iconst (v := 0) hx hb dL_act_134 (by decide) ?_
      refine il_st hx hb hK hP hD hS 0 rfl (j := 0) nI_0.symm (by decide) (by decide) dL_act_135 (fun H locs hP hD hS => ?_)
      have hP : va_P D vwCl ((wX cI cZ q tc nc ac ch U Z B L F ++ wS cI cR r nr ar tc nc ac ch U Z B L F) ++ [(b, .inl (cI, 3, .inl (upd (fun _ => 0) 0 0)))]) H := hP
      have hD : va_D A ((wX cI cZ q tc nc ac ch U Z B L F ++ wS cI cR r nr ar tc nc ac ch U Z B L F) ++ [(b, .inl (cI, 3, .inl (upd (fun _ => 0) 0 0)))]) := hD
      have hPX : va_P D vwCl (wX cI cZ q tc nc ac ch U Z B L F) H := P_l (P_l hP)
      have hPS : va_P D vwCl (wS cI cR r nr ar tc nc ac ch U Z B L F) H := P_r (P_l hP)
      refine lv_dup hx hb dL_act_136 rfl ?_
      refine lv_iconst (v := 1) hx hb dL_act_137 (by decide) ?_
      refine lv_iload hx hb dL_act_138 (lv_at hl 0 rfl) ?_
      refine il_st hx hb hK hP hD hS 0 rfl (j := 1) rfl (by decide) (by decide) dL_act_140 (fun H locs hP hD hS => ?_)
      have hP : va_P D vwCl ((wX cI cZ q tc nc ac ch U Z B L F ++ wS cI cR r nr ar tc nc ac ch U Z B L F) ++ [(b, .inl (cI, 3, .inl (upd (upd (fun _ => 0) 0 0) 1 (nI jv))))]) H := hP
      have hD : va_D A ((wX cI cZ q tc nc ac ch U Z B L F ++ wS cI cR r nr ar tc nc ac ch U Z B L F) ++ [(b, .inl (cI, 3, .inl (upd (upd (fun _ => 0) 0 0) 1 (nI jv))))]) := hD
      have hPX : va_P D vwCl (wX cI cZ q tc nc ac ch U Z B L F) H := P_l (P_l hP)
      have hPS : va_P D vwCl (wS cI cR r nr ar tc nc ac ch U Z B L F) H := P_r (P_l hP)
      refine lv_dup hx hb dL_act_141 rfl ?_
      refine lv_iconst (v := 2) hx hb dL_act_142 (by decide) ?_
      refine lv_iload hx hb dL_act_143 (lv_at hl 0 rfl) ?_
      refine il_st hx hb hK hP hD hS 0 rfl (j := 2) rfl (by decide) (by decide) dL_act_145 (fun H locs hP hD hS => ?_)
      have hP : va_P D vwCl ((wX cI cZ q tc nc ac ch U Z B L F ++ wS cI cR r nr ar tc nc ac ch U Z B L F) ++ [(b, .inl (cI, 3, .inl (upd (upd (upd (fun _ => 0) 0 0) 1 (nI jv)) 2 (nI jv))))]) H := hP
      have hD : va_D A ((wX cI cZ q tc nc ac ch U Z B L F ++ wS cI cR r nr ar tc nc ac ch U Z B L F) ++ [(b, .inl (cI, 3, .inl (upd (upd (upd (fun _ => 0) 0 0) 1 (nI jv)) 2 (nI jv))))]) := hD
      have hPX : va_P D vwCl (wX cI cZ q tc nc ac ch U Z B L F) H := P_l (P_l hP)
      have hPS : va_P D vwCl (wS cI cR r nr ar tc nc ac ch U Z B L F) H := P_r (P_l hP)
      have hP : va_P D vwCl ((wX cI cZ q tc nc ac ch U Z B L F ++ wS cI cR r nr ar tc nc ac ch U Z B L F) ++ [(b, .inl (cI, 3, .inl (r3 0 (nI jv) (nI jv))))]) H := P_lasti hP (fun j hj => r3_of hj)
      have hD : va_D A ((wX cI cZ q tc nc ac ch U Z B L F ++ wS cI cR r nr ar tc nc ac ch U Z B L F) ++ [(b, .inl (cI, 3, .inl (r3 0 (nI jv) (nI jv))))]) := D_last hD
      have hF : ∀ z : Nat, H.size ≤ z → A z := fun z h => hA z (Nat.le_trans hS.1 h)
      have hf : ∀ j, j < ac → ∃ (nv : Nat) (fv : Nat → Int32), H[ar j]? = some (vp_cell cI (nv, .inl fv)) := fun j hj => ⟨3, _, hPS _ _ (wS_a hj)⟩
      refine va_callr (va_runS (As := [.ref (r 2), .ref b]) (rest := [.ref (r 0)]) ⟨hx, hb, hml, hown, hts⟩ (w_S_with l (P_two (hPS 2 _ rfl) (hP _ _ (last_at _ _))) hf (by omega)) (va_cwS 2 hts gL_act_X1_with rfl rfl rfl hdX1_with ⟨Nat.le_of_ble_eq_true rfl, Nat.le_of_ble_eq_true rfl⟩) ⟨rdo_blind, rdo_pre hK hov⟩ rfl rfl hl.1 rfl (lv_room (Nat.le_of_ble_eq_true rfl)) dL_act_146 ⟨Nat.le_of_ble_eq_true rfl, Nat.le_of_ble_eq_true rfl⟩) hS (fun z _ h => hF z h) hF (fun u q9 t9 H1 locs ht9 hvm9 hw9 hB9 hz1 hk1 hS => ?_)
      obtain ⟨hq9a, hP9⟩ := hB9
      rw [ht9] at hP9
      have hk2 : ∀ z : Nat, z < H.size → H1[z]? = H[z]? := fun z h => hk1 z h (Nat.not_le.mpr h)
      have hD := D_push (e := .inl (cR, ac + 1, rf (va_up ar ac b))) hD hP hq9a (hF _ hq9a)
      have hP := (grow_P hP hk2).app hP9
      rw [List.append_assoc, List.append_assoc] at hP hD
      have hP : va_P D vwCl (wX cI cZ q tc nc ac ch U Z B L F ++ (wS cI cR r nr ar tc nc ac ch U Z B L F ++ [(b, .inl (cI, 3, .inl (r3 0 (nI jv) (nI jv)))), (q9, .inl (cR, ac + 1, rf (va_up ar ac b)))])) H1 := hP
      have hD : va_D A (wX cI cZ q tc nc ac ch U Z B L F ++ (wS cI cR r nr ar tc nc ac ch U Z B L F ++ [(b, .inl (cI, 3, .inl (r3 0 (nI jv) (nI jv)))), (q9, .inl (cR, ac + 1, rf (va_up ar ac b)))])) := hD
      clear hP9 hk1 hk2 hz1 hPX hPS
      generalize H1 = H at hP hS ⊢
      refine va_put (D := D) (ci := 1) (v := .ref q9) (ty := .array (.array .int)) (C := RX1) (T := TX1) (N := 4) hx hb hts hin tyX1 tyX1_ok nmX1 hown hK hP hD hS 7 rfl rfl 2 (by decide) (hts (.fieldLink RL 30 "SmudgedStarLaw$Sim" "astronomers" "[[I") (List.mem_of_getElem? (i := 2) rfl)) (fun _ h9 => h9) rfl (by decide +kernel) rfl rfl (Nat.le_of_ble_eq_true rfl) dL_act_149 (fun H locs hP hD hS => ?_)
      obtain ⟨hP, hD⟩ := re_PDl (wl := wX cI cZ q tc nc ac ch U Z B L F) (w' := wS cI cR (rr r 2 q9) nr (va_up ar ac b) tc nc (ac + 1) ch U Z (upd B ac 0) (upd L ac (nI jv)) (upd F ac (nI jv))) (gA nc ac) hP hD pushA_g (fun i j h1 h2 => pushA_i i j (by rw [wS_len] at h1; exact h1) (by rw [wS_len] at h2; exact h2))
      have hl : lv_has ls 6 [(4, .int (nI jv)), (3, .int (nI k)), (0, .ref (q 0)), (1, .ref ((rr r 2 q9) 0)), (2, .int x)] := hl
      have hP : va_P D vwCl (wX cI cZ q tc nc ac ch U Z B L F ++ wS cI cR (rr r 2 q9) nr (va_up ar ac b) tc nc (ac + 1) ch U Z (upd B ac 0) (upd L ac (nI jv)) (upd F ac (nI jv))) H := hP
      have hD : va_D A (wX cI cZ q tc nc ac ch U Z B L F ++ wS cI cR (rr r 2 q9) nr (va_up ar ac b) tc nc (ac + 1) ch U Z (upd B ac 0) (upd L ac (nI jv)) (upd F ac (nI jv))) := hD
      have hPX : va_P D vwCl (wX cI cZ q tc nc ac ch U Z B L F) H := P_l hP
      have hPS : va_P D vwCl (wS cI cR (rr r 2 q9) nr (va_up ar ac b) tc nc (ac + 1) ch U Z (upd B ac 0) (upd L ac (nI jv)) (upd F ac (nI jv))) H := P_r hP
      refine lv_aload_n hx hb dL_act_152 rfl (lv_at hl 2 rfl) ?_
      refine lv_iload hx hb dL_act_153 (lv_at hl 0 rfl) ?_
      refine wcV_i (As := [.int (nI jv)]) (rest := []) ⟨hx, hb, hml, hown, hts⟩ (w_X_addAstronomer l hPX htc hnc hac (D_l hD) (nI_pos (by omega)) (fI_le (by omega)) h8) (cwV 1 hts gL_act_X0_addAstronomer rfl rfl rfl hdX0_addAstronomer ⟨Nat.le_of_ble_eq_true rfl, Nat.le_of_ble_eq_true rfl⟩) (va_recv hKX hPX (ci := 0) (q0 := 0) rfl rfl) hKX hS (fr_l hD hS hA) rfl hl.1 (Nat.le_of_ble_eq_true rfl) rfl dL_act_155 ⟨Nat.le_of_ble_eq_true rfl, Nat.le_of_ble_eq_true rfl⟩ (fun H1 locs hP1 hz1 hk1 hS => ?_)
      have hP := up_l hP hD hk1 hP1
      have hD : va_D A (wX cI cZ q tc nc (ac + 1) ch U Z (upd B ac 0) (upd L ac (upd F ac (nI jv) ac)) (upd F ac (nI jv)) ++ wS cI cR (rr r 2 q9) nr (va_up ar ac b) tc nc (ac + 1) ch U Z (upd B ac 0) (upd L ac (nI jv)) (upd F ac (nI jv))) := va_D_re hD rfl
      clear hP1 hk1 hz1 hPX hPS
      generalize H1 = H at hP hS ⊢
      have hP : va_P D vwCl (wX cI cZ q tc nc (ac + 1) ch U Z (upd B ac 0) (upd L ac (upd F ac (nI jv) ac)) (upd F ac (nI jv)) ++ wS cI cR (rr r 2 q9) nr (va_up ar ac b) tc nc (ac + 1) ch U Z (upd B ac 0) (upd L ac (nI jv)) (upd F ac (nI jv))) H := hP
      have hPX : va_P D vwCl (wX cI cZ q tc nc (ac + 1) ch U Z (upd B ac 0) (upd L ac (upd F ac (nI jv) ac)) (upd F ac (nI jv))) H := P_l hP
      have hPS : va_P D vwCl (wS cI cR (rr r 2 q9) nr (va_up ar ac b) tc nc (ac + 1) ch U Z (upd B ac 0) (upd L ac (nI jv)) (upd F ac (nI jv))) H := P_r hP
      rw [show upd F ac (nI jv) ac = nI jv from pk_us] at hP hD hPX
      have hP : va_P D vwCl (wX cI cZ q tc nc (ac + 1) ch U Z (upd B ac 0) (upd L ac (nI jv)) (upd F ac (nI jv)) ++ wS cI cR (rr r 2 q9) nr (va_up ar ac b) tc nc (ac + 1) ch U Z (upd B ac 0) (upd L ac (nI jv)) (upd F ac (nI jv))) H := hP
      have hD : va_D A (wX cI cZ q tc nc (ac + 1) ch U Z (upd B ac 0) (upd L ac (nI jv)) (upd F ac (nI jv)) ++ wS cI cR (rr r 2 q9) nr (va_up ar ac b) tc nc (ac + 1) ch U Z (upd B ac 0) (upd L ac (nI jv)) (upd F ac (nI jv))) := hD
      have hPX : va_P D vwCl (wX cI cZ q tc nc (ac + 1) ch U Z (upd B ac 0) (upd L ac (nI jv)) (upd F ac (nI jv))) H := P_l hP
      have hPS : va_P D vwCl (wS cI cR (rr r 2 q9) nr (va_up ar ac b) tc nc (ac + 1) ch U Z (upd B ac 0) (upd L ac (nI jv)) (upd F ac (nI jv))) H := P_r hP
      refine lv_aload_n hx hb dL_act_158 rfl (lv_at hl 3 rfl) ?_
      refine va_get (D := D) (ci := 1) (v := .ref ((rr r 2 q9) 2)) (C := RX1) (T := TX1) (N := 4) hx hb hts hin hown hK hPS 0 rfl rfl 2 (by decide) (hts (.fieldLink RL 30 "SmudgedStarLaw$Sim" "astronomers" "[[I") (List.mem_of_getElem? (i := 2) rfl)) (fun _ h9 => h9) rfl dL_act_159 ?_
      refine va_alen (v := nI (ac + 1)) hx hb hK hPS 2 1 rfl rfl rfl dL_act_162 ?_
      refine lv_iconst (v := 1) hx hb dL_act_163 (by decide) ?_
      refine lv_isub hx hb dL_act_164 ?_
      refine lv_icmp_ne (tgt := 172) hx hb dL_act_165 (by decide) (fun c165 => absurd (nI_sub1 ac).symm c165) (fun c165 => ?_)
      refine lv_iconst (v := 1) hx hb dL_act_168 (by decide) ?_
      refine lv_goto (tgt := 173) hx hb dL_act_169 (by decide) ?_
      refine W.widen (k := 400) (n := 70000) (by decide) (by decide) ?_
      exact W.zret (v := 1) (ty := .boolean) hx hb hr rfl (fun t9 ht9 hW9 => ⟨⟨1, (), rfl, rfl, _, _, _, _, _, _, _, _, _, (rr r 2 q9), _, _, rfl, (gd_astr hG h8 (v := jv) (by omega)), by rw [ht9]; exact hP, hD⟩, hS.F ht9⟩) hS.2.2 dL_act_173
    · skip
      refine lv_iconst (v := 1) hx hb dL_act_112 (by decide) ?_
      refine W.widen (k := 400) (n := 70000) (by decide) (by decide) ?_
      exact W.zret (v := 1) (ty := .boolean) hx hb hr rfl (fun t9 ht9 hW9 => ⟨⟨1, (), rfl, rfl, _, _, _, _, _, _, _, _, _, r, _, _, rfl, hG, by rw [ht9]; exact hP, hD⟩, hS.F ht9⟩) hS.2.2 dL_act_113
  · refine lv_tableIn (off := 157) (tgt := 174) hx hb dL_act_17 (by decide) (by decide) rfl (by decide) ?_
    refine lv_aload_n hx hb dL_act_174 rfl (lv_at hl 2 rfl) ?_
    refine va_get (D := D) (ci := 1) (v := .ref (r 2)) (C := RX1) (T := TX1) (N := 4) hx hb hts hin hown hK hPS 0 rfl rfl 2 (by decide) (hts (.fieldLink RL 30 "SmudgedStarLaw$Sim" "astronomers" "[[I") (List.mem_of_getElem? (i := 2) rfl)) (fun _ h9 => h9) rfl dL_act_175 ?_
    refine va_alen (v := nI ac) hx hb hK hPS 2 1 rfl rfl rfl dL_act_178 ?_
    refine lv_if_ne (tgt := 184) hx hb dL_act_179 (by decide) (fun c179 => ?_) (fun c179 => ?_)
    · have h0 : 0 < ac := by
        rcases Nat.eq_zero_or_pos ac with h | h
        · exact absurd (by rw [h]; rfl) c179
        · exact h
      refine lv_iload_n hx hb dL_act_184 rfl (lv_at hl 3 rfl) ?_
      refine lv_bipush (v := 8) hx hb dL_act_185 (by decide) ?_
      refine lv_ishr hx hb dL_act_187 ?_
      refine lv_aload_n hx hb dL_act_188 rfl (lv_at hl 2 rfl) ?_
      refine va_get (D := D) (ci := 1) (v := .ref (r 2)) (C := RX1) (T := TX1) (N := 4) hx hb hts hin hown hK hPS 0 rfl rfl 2 (by decide) (hts (.fieldLink RL 30 "SmudgedStarLaw$Sim" "astronomers" "[[I") (List.mem_of_getElem? (i := 2) rfl)) (fun _ h9 => h9) rfl dL_act_189 ?_
      refine va_alen (v := nI ac) hx hb hK hPS 2 1 rfl rfl rfl dL_act_192 ?_
      refine pcS_i (As := [.int (x >>> (8 &&& 31)), .int (nI ac)]) (rest := []) ⟨hx, hb, hml, hown, hts⟩ (g_L_below l (v := (x >>> (8 &&& 31))) (n := ac) (h0) (by omega)) (va_cwS 2 hts gL_act_L_below rfl rfl rfl hdL_below ⟨Nat.le_of_ble_eq_true rfl, Nat.le_of_ble_eq_true rfl⟩) rfl hl.1 (Nat.le_of_ble_eq_true rfl) rfl dL_act_193 ⟨Nat.le_of_ble_eq_true rfl, Nat.le_of_ble_eq_true rfl⟩ ?_
      obtain ⟨jv, hjv, ejv⟩ : ∃ j : Nat, j < ac ∧ nI (bw (x >>> (8 &&& 31)) ac) = nI j := ⟨_, bw_lt _ (h0), rfl⟩
      refine lv_cst (y := nI jv) ejv ?_
      refine lv_istore (lv' := [(4, .int (nI jv)), (3, .int (nI k)), (0, .ref (q 0)), (1, .ref (r 0)), (2, .int x)]) hx hb dL_act_196 hl (by decide) rfl (fun ls hl => ?_)
      refine lv_aload_n hx hb dL_act_198 rfl (lv_at hl 3 rfl) ?_
      refine va_get (D := D) (ci := 1) (v := .ref (r 2)) (C := RX1) (T := TX1) (N := 4) hx hb hts hin hown hK hPS 0 rfl rfl 2 (by decide) (hts (.fieldLink RL 30 "SmudgedStarLaw$Sim" "astronomers" "[[I") (List.mem_of_getElem? (i := 2) rfl)) (fun _ h9 => h9) rfl dL_act_199 ?_
      refine lv_iload hx hb dL_act_202 (lv_at hl 0 rfl) ?_
      refine ra_ld hx hb hK hPS 2 1 rfl rfl (j := jv) rfl (by omega) (by omega) dL_act_204 ?_
      refine lv_iconst (v := 0) hx hb dL_act_205 (by decide) ?_
      refine rgA_0 hx hb hK hPS (j := jv) (by omega) dL_act_206 ?_
      refine lv_istore (lv' := [(5, .int (B jv)), (4, .int (nI jv)), (3, .int (nI k)), (0, .ref (q 0)), (1, .ref (r 0)), (2, .int x)]) hx hb dL_act_207 hl (by decide) rfl (fun ls hl => ?_)
      refine lv_aload_n hx hb dL_act_209 rfl (lv_at hl 4 rfl) ?_
      refine va_get (D := D) (ci := 1) (v := .ref (r 2)) (C := RX1) (T := TX1) (N := 4) hx hb hts hin hown hK hPS 0 rfl rfl 2 (by decide) (hts (.fieldLink RL 30 "SmudgedStarLaw$Sim" "astronomers" "[[I") (List.mem_of_getElem? (i := 2) rfl)) (fun _ h9 => h9) rfl dL_act_210 ?_
      refine lv_iload hx hb dL_act_213 (lv_at hl 1 rfl) ?_
      refine ra_ld hx hb hK hPS 2 1 rfl rfl (j := jv) rfl (by omega) (by omega) dL_act_215 ?_
      refine lv_iconst (v := 0) hx hb dL_act_216 (by decide) ?_
      refine lv_iload_n hx hb dL_act_217 rfl (lv_at hl 2 rfl) ?_
      refine rgA_st0 (wl := wX cI cZ q tc nc ac ch U Z B L F) hx hb hK hP hD hS (j := jv) (by omega) dL_act_218 (fun H locs hP hD hS => ?_)
      have hP : va_P D vwCl (wX cI cZ q tc nc ac ch U Z B L F ++ wS cI cR r nr ar tc nc ac ch U Z (upd B jv (nI k)) L F) H := hP
      have hD : va_D A (wX cI cZ q tc nc ac ch U Z B L F ++ wS cI cR r nr ar tc nc ac ch U Z (upd B jv (nI k)) L F) := hD
      have hPX : va_P D vwCl (wX cI cZ q tc nc ac ch U Z B L F) H := P_l hP
      have hPS : va_P D vwCl (wS cI cR r nr ar tc nc ac ch U Z (upd B jv (nI k)) L F) H := P_r hP
      refine lv_aload_n hx hb dL_act_219 rfl (lv_at hl 4 rfl) ?_
      refine va_get (D := D) (ci := 1) (v := .ref (r 2)) (C := RX1) (T := TX1) (N := 4) hx hb hts hin hown hK hPS 0 rfl rfl 2 (by decide) (hts (.fieldLink RL 30 "SmudgedStarLaw$Sim" "astronomers" "[[I") (List.mem_of_getElem? (i := 2) rfl)) (fun _ h9 => h9) rfl dL_act_220 ?_
      refine lv_iload hx hb dL_act_223 (lv_at hl 1 rfl) ?_
      refine ra_ld hx hb hK hPS 2 1 rfl rfl (j := jv) rfl (by omega) (by omega) dL_act_225 ?_
      refine lv_iconst (v := 1) hx hb dL_act_226 (by decide) ?_
      refine lv_aload_n hx hb dL_act_227 rfl (lv_at hl 4 rfl) ?_
      refine va_get (D := D) (ci := 1) (v := .ref (r 2)) (C := RX1) (T := TX1) (N := 4) hx hb hts hin hown hK hPS 0 rfl rfl 2 (by decide) (hts (.fieldLink RL 30 "SmudgedStarLaw$Sim" "astronomers" "[[I") (List.mem_of_getElem? (i := 2) rfl)) (fun _ h9 => h9) rfl dL_act_228 ?_
      refine lv_iload hx hb dL_act_231 (lv_at hl 1 rfl) ?_
      refine ra_ld hx hb hK hPS 2 1 rfl rfl (j := jv) rfl (by omega) (by omega) dL_act_233 ?_
      refine lv_iconst (v := 2) hx hb dL_act_234 (by decide) ?_
      refine rgA_2 hx hb hK hPS (j := jv) (by omega) dL_act_235 ?_
      refine rgA_st1 (wl := wX cI cZ q tc nc ac ch U Z B L F) hx hb hK hP hD hS (j := jv) (by omega) dL_act_236 (fun H locs hP hD hS => ?_)
      have hP : va_P D vwCl (wX cI cZ q tc nc ac ch U Z B L F ++ wS cI cR r nr ar tc nc ac ch U Z (upd B jv (nI k)) (upd L jv (F jv)) F) H := hP
      have hD : va_D A (wX cI cZ q tc nc ac ch U Z B L F ++ wS cI cR r nr ar tc nc ac ch U Z (upd B jv (nI k)) (upd L jv (F jv)) F) := hD
      have hPX : va_P D vwCl (wX cI cZ q tc nc ac ch U Z B L F) H := P_l hP
      have hPS : va_P D vwCl (wS cI cR r nr ar tc nc ac ch U Z (upd B jv (nI k)) (upd L jv (F jv)) F) H := P_r hP
      refine lv_aload_n hx hb dL_act_237 rfl (lv_at hl 3 rfl) ?_
      refine lv_iload hx hb dL_act_238 (lv_at hl 1 rfl) ?_
      refine lv_iload_n hx hb dL_act_240 rfl (lv_at hl 2 rfl) ?_
      refine wcV_i (As := [.int (nI jv), .int (nI k)]) (rest := []) ⟨hx, hb, hml, hown, hts⟩ (w_X_blame l hPX htc hnc hac (D_l hD) (by omega) hk) (cwV 2 hts gL_act_X0_blame rfl rfl rfl hdX0_blame ⟨Nat.le_of_ble_eq_true rfl, Nat.le_of_ble_eq_true rfl⟩) (va_recv hKX hPX (ci := 0) (q0 := 0) rfl rfl) hKX hS (fr_l hD hS hA) rfl hl.1 (Nat.le_of_ble_eq_true rfl) rfl dL_act_241 ⟨Nat.le_of_ble_eq_true rfl, Nat.le_of_ble_eq_true rfl⟩ (fun H1 locs hP1 hz1 hk1 hS => ?_)
      have hP := up_l hP hD hk1 hP1
      have hD : va_D A (wX cI cZ q tc nc ac ch U Z (upd B jv (nI k)) (upd L jv (F jv)) F ++ wS cI cR r nr ar tc nc ac ch U Z (upd B jv (nI k)) (upd L jv (F jv)) F) := va_D_re hD rfl
      clear hP1 hk1 hz1 hPX hPS
      generalize H1 = H at hP hS ⊢
      have hP : va_P D vwCl (wX cI cZ q tc nc ac ch U Z (upd B jv (nI k)) (upd L jv (F jv)) F ++ wS cI cR r nr ar tc nc ac ch U Z (upd B jv (nI k)) (upd L jv (F jv)) F) H := hP
      have hPX : va_P D vwCl (wX cI cZ q tc nc ac ch U Z (upd B jv (nI k)) (upd L jv (F jv)) F) H := P_l hP
      have hPS : va_P D vwCl (wS cI cR r nr ar tc nc ac ch U Z (upd B jv (nI k)) (upd L jv (F jv)) F) H := P_r hP
      refine lv_iload hx hb dL_act_244 (lv_at hl 0 rfl) ?_
      refine lv_icmp_ne (tgt := 253) hx hb dL_act_246 (by decide) (fun c246 => absurd rfl c246) (fun c246 => ?_)
      refine lv_iconst (v := 1) hx hb dL_act_249 (by decide) ?_
      refine lv_goto (tgt := 254) hx hb dL_act_250 (by decide) ?_
      refine W.widen (k := 400) (n := 70000) (by decide) (by decide) ?_
      exact W.zret (v := 1) (ty := .boolean) hx hb hr rfl (fun t9 ht9 hW9 => ⟨⟨1, (), rfl, rfl, _, _, _, _, _, _, _, _, _, r, _, _, rfl, (gd_blame hG hk), by rw [ht9]; exact hP, hD⟩, hS.F ht9⟩) hS.2.2 dL_act_254
    · skip
      refine lv_iconst (v := 1) hx hb dL_act_182 (by decide) ?_
      refine W.widen (k := 400) (n := 70000) (by decide) (by decide) ?_
      exact W.zret (v := 1) (ty := .boolean) hx hb hr rfl (fun t9 ht9 hW9 => ⟨⟨1, (), rfl, rfl, _, _, _, _, _, _, _, _, _, r, _, _, rfl, hG, by rw [ht9]; exact hP, hD⟩, hS.F ht9⟩) hS.2.2 dL_act_183
  · refine lv_tableIn (off := 157) (tgt := 174) hx hb dL_act_17 (by decide) (by decide) rfl (by decide) ?_
    refine lv_aload_n hx hb dL_act_174 rfl (lv_at hl 2 rfl) ?_
    refine va_get (D := D) (ci := 1) (v := .ref (r 2)) (C := RX1) (T := TX1) (N := 4) hx hb hts hin hown hK hPS 0 rfl rfl 2 (by decide) (hts (.fieldLink RL 30 "SmudgedStarLaw$Sim" "astronomers" "[[I") (List.mem_of_getElem? (i := 2) rfl)) (fun _ h9 => h9) rfl dL_act_175 ?_
    refine va_alen (v := nI ac) hx hb hK hPS 2 1 rfl rfl rfl dL_act_178 ?_
    refine lv_if_ne (tgt := 184) hx hb dL_act_179 (by decide) (fun c179 => ?_) (fun c179 => ?_)
    · have h0 : 0 < ac := by
        rcases Nat.eq_zero_or_pos ac with h | h
        · exact absurd (by rw [h]; rfl) c179
        · exact h
      refine lv_iload_n hx hb dL_act_184 rfl (lv_at hl 3 rfl) ?_
      refine lv_bipush (v := 8) hx hb dL_act_185 (by decide) ?_
      refine lv_ishr hx hb dL_act_187 ?_
      refine lv_aload_n hx hb dL_act_188 rfl (lv_at hl 2 rfl) ?_
      refine va_get (D := D) (ci := 1) (v := .ref (r 2)) (C := RX1) (T := TX1) (N := 4) hx hb hts hin hown hK hPS 0 rfl rfl 2 (by decide) (hts (.fieldLink RL 30 "SmudgedStarLaw$Sim" "astronomers" "[[I") (List.mem_of_getElem? (i := 2) rfl)) (fun _ h9 => h9) rfl dL_act_189 ?_
      refine va_alen (v := nI ac) hx hb hK hPS 2 1 rfl rfl rfl dL_act_192 ?_
      refine pcS_i (As := [.int (x >>> (8 &&& 31)), .int (nI ac)]) (rest := []) ⟨hx, hb, hml, hown, hts⟩ (g_L_below l (v := (x >>> (8 &&& 31))) (n := ac) (h0) (by omega)) (va_cwS 2 hts gL_act_L_below rfl rfl rfl hdL_below ⟨Nat.le_of_ble_eq_true rfl, Nat.le_of_ble_eq_true rfl⟩) rfl hl.1 (Nat.le_of_ble_eq_true rfl) rfl dL_act_193 ⟨Nat.le_of_ble_eq_true rfl, Nat.le_of_ble_eq_true rfl⟩ ?_
      obtain ⟨jv, hjv, ejv⟩ : ∃ j : Nat, j < ac ∧ nI (bw (x >>> (8 &&& 31)) ac) = nI j := ⟨_, bw_lt _ (h0), rfl⟩
      refine lv_cst (y := nI jv) ejv ?_
      refine lv_istore (lv' := [(4, .int (nI jv)), (3, .int (nI k)), (0, .ref (q 0)), (1, .ref (r 0)), (2, .int x)]) hx hb dL_act_196 hl (by decide) rfl (fun ls hl => ?_)
      refine lv_aload_n hx hb dL_act_198 rfl (lv_at hl 3 rfl) ?_
      refine va_get (D := D) (ci := 1) (v := .ref (r 2)) (C := RX1) (T := TX1) (N := 4) hx hb hts hin hown hK hPS 0 rfl rfl 2 (by decide) (hts (.fieldLink RL 30 "SmudgedStarLaw$Sim" "astronomers" "[[I") (List.mem_of_getElem? (i := 2) rfl)) (fun _ h9 => h9) rfl dL_act_199 ?_
      refine lv_iload hx hb dL_act_202 (lv_at hl 0 rfl) ?_
      refine ra_ld hx hb hK hPS 2 1 rfl rfl (j := jv) rfl (by omega) (by omega) dL_act_204 ?_
      refine lv_iconst (v := 0) hx hb dL_act_205 (by decide) ?_
      refine rgA_0 hx hb hK hPS (j := jv) (by omega) dL_act_206 ?_
      refine lv_istore (lv' := [(5, .int (B jv)), (4, .int (nI jv)), (3, .int (nI k)), (0, .ref (q 0)), (1, .ref (r 0)), (2, .int x)]) hx hb dL_act_207 hl (by decide) rfl (fun ls hl => ?_)
      refine lv_aload_n hx hb dL_act_209 rfl (lv_at hl 4 rfl) ?_
      refine va_get (D := D) (ci := 1) (v := .ref (r 2)) (C := RX1) (T := TX1) (N := 4) hx hb hts hin hown hK hPS 0 rfl rfl 2 (by decide) (hts (.fieldLink RL 30 "SmudgedStarLaw$Sim" "astronomers" "[[I") (List.mem_of_getElem? (i := 2) rfl)) (fun _ h9 => h9) rfl dL_act_210 ?_
      refine lv_iload hx hb dL_act_213 (lv_at hl 1 rfl) ?_
      refine ra_ld hx hb hK hPS 2 1 rfl rfl (j := jv) rfl (by omega) (by omega) dL_act_215 ?_
      refine lv_iconst (v := 0) hx hb dL_act_216 (by decide) ?_
      refine lv_iload_n hx hb dL_act_217 rfl (lv_at hl 2 rfl) ?_
      refine rgA_st0 (wl := wX cI cZ q tc nc ac ch U Z B L F) hx hb hK hP hD hS (j := jv) (by omega) dL_act_218 (fun H locs hP hD hS => ?_)
      have hP : va_P D vwCl (wX cI cZ q tc nc ac ch U Z B L F ++ wS cI cR r nr ar tc nc ac ch U Z (upd B jv (nI k)) L F) H := hP
      have hD : va_D A (wX cI cZ q tc nc ac ch U Z B L F ++ wS cI cR r nr ar tc nc ac ch U Z (upd B jv (nI k)) L F) := hD
      have hPX : va_P D vwCl (wX cI cZ q tc nc ac ch U Z B L F) H := P_l hP
      have hPS : va_P D vwCl (wS cI cR r nr ar tc nc ac ch U Z (upd B jv (nI k)) L F) H := P_r hP
      refine lv_aload_n hx hb dL_act_219 rfl (lv_at hl 4 rfl) ?_
      refine va_get (D := D) (ci := 1) (v := .ref (r 2)) (C := RX1) (T := TX1) (N := 4) hx hb hts hin hown hK hPS 0 rfl rfl 2 (by decide) (hts (.fieldLink RL 30 "SmudgedStarLaw$Sim" "astronomers" "[[I") (List.mem_of_getElem? (i := 2) rfl)) (fun _ h9 => h9) rfl dL_act_220 ?_
      refine lv_iload hx hb dL_act_223 (lv_at hl 1 rfl) ?_
      refine ra_ld hx hb hK hPS 2 1 rfl rfl (j := jv) rfl (by omega) (by omega) dL_act_225 ?_
      refine lv_iconst (v := 1) hx hb dL_act_226 (by decide) ?_
      refine lv_aload_n hx hb dL_act_227 rfl (lv_at hl 4 rfl) ?_
      refine va_get (D := D) (ci := 1) (v := .ref (r 2)) (C := RX1) (T := TX1) (N := 4) hx hb hts hin hown hK hPS 0 rfl rfl 2 (by decide) (hts (.fieldLink RL 30 "SmudgedStarLaw$Sim" "astronomers" "[[I") (List.mem_of_getElem? (i := 2) rfl)) (fun _ h9 => h9) rfl dL_act_228 ?_
      refine lv_iload hx hb dL_act_231 (lv_at hl 1 rfl) ?_
      refine ra_ld hx hb hK hPS 2 1 rfl rfl (j := jv) rfl (by omega) (by omega) dL_act_233 ?_
      refine lv_iconst (v := 2) hx hb dL_act_234 (by decide) ?_
      refine rgA_2 hx hb hK hPS (j := jv) (by omega) dL_act_235 ?_
      refine rgA_st1 (wl := wX cI cZ q tc nc ac ch U Z B L F) hx hb hK hP hD hS (j := jv) (by omega) dL_act_236 (fun H locs hP hD hS => ?_)
      have hP : va_P D vwCl (wX cI cZ q tc nc ac ch U Z B L F ++ wS cI cR r nr ar tc nc ac ch U Z (upd B jv (nI k)) (upd L jv (F jv)) F) H := hP
      have hD : va_D A (wX cI cZ q tc nc ac ch U Z B L F ++ wS cI cR r nr ar tc nc ac ch U Z (upd B jv (nI k)) (upd L jv (F jv)) F) := hD
      have hPX : va_P D vwCl (wX cI cZ q tc nc ac ch U Z B L F) H := P_l hP
      have hPS : va_P D vwCl (wS cI cR r nr ar tc nc ac ch U Z (upd B jv (nI k)) (upd L jv (F jv)) F) H := P_r hP
      refine lv_aload_n hx hb dL_act_237 rfl (lv_at hl 3 rfl) ?_
      refine lv_iload hx hb dL_act_238 (lv_at hl 1 rfl) ?_
      refine lv_iload_n hx hb dL_act_240 rfl (lv_at hl 2 rfl) ?_
      refine wcV_i (As := [.int (nI jv), .int (nI k)]) (rest := []) ⟨hx, hb, hml, hown, hts⟩ (w_X_blame l hPX htc hnc hac (D_l hD) (by omega) hk) (cwV 2 hts gL_act_X0_blame rfl rfl rfl hdX0_blame ⟨Nat.le_of_ble_eq_true rfl, Nat.le_of_ble_eq_true rfl⟩) (va_recv hKX hPX (ci := 0) (q0 := 0) rfl rfl) hKX hS (fr_l hD hS hA) rfl hl.1 (Nat.le_of_ble_eq_true rfl) rfl dL_act_241 ⟨Nat.le_of_ble_eq_true rfl, Nat.le_of_ble_eq_true rfl⟩ (fun H1 locs hP1 hz1 hk1 hS => ?_)
      have hP := up_l hP hD hk1 hP1
      have hD : va_D A (wX cI cZ q tc nc ac ch U Z (upd B jv (nI k)) (upd L jv (F jv)) F ++ wS cI cR r nr ar tc nc ac ch U Z (upd B jv (nI k)) (upd L jv (F jv)) F) := va_D_re hD rfl
      clear hP1 hk1 hz1 hPX hPS
      generalize H1 = H at hP hS ⊢
      have hP : va_P D vwCl (wX cI cZ q tc nc ac ch U Z (upd B jv (nI k)) (upd L jv (F jv)) F ++ wS cI cR r nr ar tc nc ac ch U Z (upd B jv (nI k)) (upd L jv (F jv)) F) H := hP
      have hPX : va_P D vwCl (wX cI cZ q tc nc ac ch U Z (upd B jv (nI k)) (upd L jv (F jv)) F) H := P_l hP
      have hPS : va_P D vwCl (wS cI cR r nr ar tc nc ac ch U Z (upd B jv (nI k)) (upd L jv (F jv)) F) H := P_r hP
      refine lv_iload hx hb dL_act_244 (lv_at hl 0 rfl) ?_
      refine lv_icmp_ne (tgt := 253) hx hb dL_act_246 (by decide) (fun c246 => absurd rfl c246) (fun c246 => ?_)
      refine lv_iconst (v := 1) hx hb dL_act_249 (by decide) ?_
      refine lv_goto (tgt := 254) hx hb dL_act_250 (by decide) ?_
      refine W.widen (k := 400) (n := 70000) (by decide) (by decide) ?_
      exact W.zret (v := 1) (ty := .boolean) hx hb hr rfl (fun t9 ht9 hW9 => ⟨⟨1, (), rfl, rfl, _, _, _, _, _, _, _, _, _, r, _, _, rfl, (gd_blame hG hk), by rw [ht9]; exact hP, hD⟩, hS.F ht9⟩) hS.2.2 dL_act_254
    · skip
      refine lv_iconst (v := 1) hx hb dL_act_182 (by decide) ?_
      refine W.widen (k := 400) (n := 70000) (by decide) (by decide) ?_
      exact W.zret (v := 1) (ty := .boolean) hx hb hr rfl (fun t9 ht9 hW9 => ⟨⟨1, (), rfl, rfl, _, _, _, _, _, _, _, _, _, r, _, _, rfl, hG, by rw [ht9]; exact hP, hD⟩, hS.F ht9⟩) hS.2.2 dL_act_183
  · refine lv_tableIn (off := 238) (tgt := 255) hx hb dL_act_17 (by decide) (by decide) rfl (by decide) ?_
    refine lv_aload_n hx hb dL_act_255 rfl (lv_at hl 2 rfl) ?_
    refine va_get (D := D) (ci := 1) (v := .ref (r 1)) (C := RX1) (T := TX1) (N := 4) hx hb hts hin hown hK hPS 0 rfl rfl 1 (by decide) (hts (.fieldLink RL 45 "SmudgedStarLaw$Sim" "nights" "[[I") (List.mem_of_getElem? (i := 4) rfl)) (fun _ h9 => h9) rfl dL_act_256 ?_
    refine va_alen (v := nI nc) hx hb hK hPS 1 1 rfl rfl rfl dL_act_259 ?_
    refine lv_if_ne (tgt := 265) hx hb dL_act_260 (by decide) (fun c260 => ?_) (fun c260 => ?_)
    · have h0 : 0 < nc := by
        rcases Nat.eq_zero_or_pos nc with h | h
        · exact absurd (by rw [h]; rfl) c260
        · exact h
      refine lv_iload_n hx hb dL_act_265 rfl (lv_at hl 3 rfl) ?_
      refine lv_bipush (v := 6) hx hb dL_act_266 (by decide) ?_
      refine lv_ishr hx hb dL_act_268 ?_
      refine lv_aload_n hx hb dL_act_269 rfl (lv_at hl 2 rfl) ?_
      refine va_get (D := D) (ci := 1) (v := .ref (r 1)) (C := RX1) (T := TX1) (N := 4) hx hb hts hin hown hK hPS 0 rfl rfl 1 (by decide) (hts (.fieldLink RL 45 "SmudgedStarLaw$Sim" "nights" "[[I") (List.mem_of_getElem? (i := 4) rfl)) (fun _ h9 => h9) rfl dL_act_270 ?_
      refine va_alen (v := nI nc) hx hb hK hPS 1 1 rfl rfl rfl dL_act_273 ?_
      refine pcS_i (As := [.int (x >>> (6 &&& 31)), .int (nI nc)]) (rest := []) ⟨hx, hb, hml, hown, hts⟩ (g_L_below l (v := (x >>> (6 &&& 31))) (n := nc) (h0) (by omega)) (va_cwS 2 hts gL_act_L_below rfl rfl rfl hdL_below ⟨Nat.le_of_ble_eq_true rfl, Nat.le_of_ble_eq_true rfl⟩) rfl hl.1 (Nat.le_of_ble_eq_true rfl) rfl dL_act_274 ⟨Nat.le_of_ble_eq_true rfl, Nat.le_of_ble_eq_true rfl⟩ ?_
      obtain ⟨jv, hjv, ejv⟩ : ∃ j : Nat, j < nc ∧ nI (bw (x >>> (6 &&& 31)) nc) = nI j := ⟨_, bw_lt _ (h0), rfl⟩
      refine lv_cst (y := nI jv) ejv ?_
      refine lv_istore (lv' := [(4, .int (nI jv)), (3, .int (nI k)), (0, .ref (q 0)), (1, .ref (r 0)), (2, .int x)]) hx hb dL_act_277 hl (by decide) rfl (fun ls hl => ?_)
      refine lv_aload_n hx hb dL_act_279 rfl (lv_at hl 3 rfl) ?_
      refine lv_iload hx hb dL_act_280 (lv_at hl 0 rfl) ?_
      have hFr := fr_r hD hS hA
      refine va_callv (va_runV (As := [.int (nI jv)]) (rest := []) ⟨hx, hb, hml, hown, hts⟩ (w_S_strike l hPS htc hnc hac (D_r hD) (by omega)) (cwV 1 hts gL_act_X1_strike rfl rfl rfl hdX1_strike ⟨Nat.le_of_ble_eq_true rfl, Nat.le_of_ble_eq_true rfl⟩) ⟨rdo_blind, (va_recv hK hPS (ci := 1) (q0 := 0) rfl rfl), rdo_pre hK hov⟩ rfl rfl hl.1 rfl (lv_room (Nat.le_of_ble_eq_true rfl)) dL_act_282 ⟨Nat.le_of_ble_eq_true rfl, Nat.le_of_ble_eq_true rfl⟩) hS (fun z _ h => hFr z h) hFr (fun u t9 H1 locs ht9 hvm9 hw9 hB9 hz1 hk1 hS => ?_)
      obtain ⟨q9, hP9, hD9⟩ := hB9
      rw [ht9] at hP9
      have hD1 := up_rD hP hD hFr hD9
      have hP := up_r hP hD hk1 hP9
      have hD : va_D A (wX cI cZ q tc nc ac ch U Z B L F ++ wS cI cR (rr r 1 q9) (shN nr jv) ar tc (nc - 1) ac ch (shf U jv (nc - 1)) (shf Z jv (nc - 1)) B L F) := hD1
      clear hP9 hk1 hz1 hPX hPS hD1 hD9 hFr
      generalize H1 = H at hP hS ⊢
      have hP : va_P D vwCl (wX cI cZ q tc nc ac ch U Z B L F ++ wS cI cR (rr r 1 q9) (shN nr jv) ar tc (nc - 1) ac ch (shf U jv (nc - 1)) (shf Z jv (nc - 1)) B L F) H := hP
      have hPX : va_P D vwCl (wX cI cZ q tc nc ac ch U Z B L F) H := P_l hP
      have hPS : va_P D vwCl (wS cI cR (rr r 1 q9) (shN nr jv) ar tc (nc - 1) ac ch (shf U jv (nc - 1)) (shf Z jv (nc - 1)) B L F) H := P_r hP
      have hl : lv_has ls 6 [(4, .int (nI jv)), (3, .int (nI k)), (0, .ref (q 0)), (1, .ref ((rr r 1 q9) 0)), (2, .int x)] := hl
      refine lv_aload_n hx hb dL_act_285 rfl (lv_at hl 2 rfl) ?_
      refine lv_iload hx hb dL_act_286 (lv_at hl 0 rfl) ?_
      refine wcV_i (As := [.int (nI jv)]) (rest := []) ⟨hx, hb, hml, hown, hts⟩ (w_X_strike l hPX htc hnc hac (D_l hD) (by omega)) (cwV 1 hts gL_act_X0_strike rfl rfl rfl hdX0_strike ⟨Nat.le_of_ble_eq_true rfl, Nat.le_of_ble_eq_true rfl⟩) (va_recv hKX hPX (ci := 0) (q0 := 0) rfl rfl) hKX hS (fr_l hD hS hA) rfl hl.1 (Nat.le_of_ble_eq_true rfl) rfl dL_act_288 ⟨Nat.le_of_ble_eq_true rfl, Nat.le_of_ble_eq_true rfl⟩ (fun H1 locs hP1 hz1 hk1 hS => ?_)
      have hP := up_l hP hD hk1 hP1
      have hD : va_D A (wX cI cZ q tc (nc - 1) ac ch (shf U jv (nc - 1)) (shf Z jv (nc - 1)) B L F ++ wS cI cR (rr r 1 q9) (shN nr jv) ar tc (nc - 1) ac ch (shf U jv (nc - 1)) (shf Z jv (nc - 1)) B L F) := va_D_re hD rfl
      clear hP1 hk1 hz1 hPX hPS
      generalize H1 = H at hP hS ⊢
      have hP : va_P D vwCl (wX cI cZ q tc (nc - 1) ac ch (shf U jv (nc - 1)) (shf Z jv (nc - 1)) B L F ++ wS cI cR (rr r 1 q9) (shN nr jv) ar tc (nc - 1) ac ch (shf U jv (nc - 1)) (shf Z jv (nc - 1)) B L F) H := hP
      have hPX : va_P D vwCl (wX cI cZ q tc (nc - 1) ac ch (shf U jv (nc - 1)) (shf Z jv (nc - 1)) B L F) H := P_l hP
      have hPS : va_P D vwCl (wS cI cR (rr r 1 q9) (shN nr jv) ar tc (nc - 1) ac ch (shf U jv (nc - 1)) (shf Z jv (nc - 1)) B L F) H := P_r hP
      refine lv_aload_n hx hb dL_act_291 rfl (lv_at hl 3 rfl) ?_
      refine va_get (D := D) (ci := 1) (v := .ref ((rr r 1 q9) 1)) (C := RX1) (T := TX1) (N := 4) hx hb hts hin hown hK hPS 0 rfl rfl 1 (by decide) (hts (.fieldLink RL 45 "SmudgedStarLaw$Sim" "nights" "[[I") (List.mem_of_getElem? (i := 4) rfl)) (fun _ h9 => h9) rfl dL_act_292 ?_
      refine va_alen (v := nI (nc - 1)) hx hb hK hPS 1 1 rfl rfl rfl dL_act_295 ?_
      refine lv_icmp_ne (tgt := 303) hx hb dL_act_296 (by decide) (fun c296 => absurd rfl c296) (fun c296 => ?_)
      refine lv_iconst (v := 1) hx hb dL_act_299 (by decide) ?_
      refine lv_goto (tgt := 304) hx hb dL_act_300 (by decide) ?_
      refine W.widen (k := 400) (n := 70000) (by decide) (by decide) ?_
      exact W.zret (v := 1) (ty := .boolean) hx hb hr rfl (fun t9 ht9 hW9 => ⟨⟨1, (), rfl, rfl, _, _, _, _, _, _, _, _, _, (rr r 1 q9), _, _, rfl, (gd_strike hG jv), by rw [ht9]; exact hP, hD⟩, hS.F ht9⟩) hS.2.2 dL_act_304
    · skip
      refine lv_iconst (v := 1) hx hb dL_act_263 (by decide) ?_
      refine W.widen (k := 400) (n := 70000) (by decide) (by decide) ?_
      exact W.zret (v := 1) (ty := .boolean) hx hb hr rfl (fun t9 ht9 hW9 => ⟨⟨1, (), rfl, rfl, _, _, _, _, _, _, _, _, _, r, _, _, rfl, hG, by rw [ht9]; exact hP, hD⟩, hS.F ht9⟩) hS.2.2 dL_act_264
  · refine lv_tableOut (tgt := 305) hx hb dL_act_17 (Or.inr (by rw [nI_toInt (by omega)]; omega)) (by decide) ?_
    refine lv_aload_n hx hb dL_act_305 rfl (lv_at hl 2 rfl) ?_
    refine va_get (D := D) (ci := 1) (v := .ref (r 1)) (C := RX1) (T := TX1) (N := 4) hx hb hts hin hown hK hPS 0 rfl rfl 1 (by decide) (hts (.fieldLink RL 45 "SmudgedStarLaw$Sim" "nights" "[[I") (List.mem_of_getElem? (i := 4) rfl)) (fun _ h9 => h9) rfl dL_act_306 ?_
    refine va_alen (v := nI nc) hx hb hK hPS 1 1 rfl rfl rfl dL_act_309 ?_
    refine lv_bipush (v := 40) hx hb dL_act_310 (by decide) ?_
    refine lv_icmp_eq (tgt := 319) hx hb dL_act_312 (by decide) (fun c312 => ?_) (fun c312 => ?_)
    · skip
      refine lv_iconst (v := 1) hx hb dL_act_319 (by decide) ?_
      refine W.widen (k := 400) (n := 70000) (by decide) (by decide) ?_
      exact W.zret (v := 1) (ty := .boolean) hx hb hr rfl (fun t9 ht9 hW9 => ⟨⟨1, (), rfl, rfl, _, _, _, _, _, _, _, _, _, r, _, _, rfl, hG, by rw [ht9]; exact hP, hD⟩, hS.F ht9⟩) hS.2.2 dL_act_320
    · have h40 : nc < 40 := by
        rcases (show nc < 40 ∨ nc = 40 by omega) with h | h
        · exact h
        · exact absurd (by rw [h]; rfl) c312
      refine lv_iload_n hx hb dL_act_315 rfl (lv_at hl 0 rfl) ?_
      refine lv_if_ne (tgt := 321) hx hb dL_act_316 (by decide) (fun c316 => ?_) (fun c316 => ?_)
      · have h0 : 0 < k := by
          rcases Nat.eq_zero_or_pos k with h | h
          · exact absurd (by rw [h]; rfl) c316
          · exact h
        refine lv_fork (fun z : Bool => F0 m 362 ls [.int (bI z)]) (fun z => ?_) (fun K => ?_)
        · show W p l e _ s m _ below meth c _ _ _ _ _ (F0 m 362 ls [.int (bI z)])
          refine lv_istore (lv' := [(4, .int (bI z)), (3, .int (nI k)), (0, .ref (q 0)), (1, .ref (r 0)), (2, .int x)]) hx hb dL_act_362 hl (by decide) rfl (fun ls hl => ?_)
          refine lv_aload_n hx hb dL_act_364 rfl (lv_at hl 2 rfl) ?_
          refine lv_iload_n hx hb dL_act_365 rfl (lv_at hl 1 rfl) ?_
          refine lv_iload hx hb dL_act_366 (lv_at hl 0 rfl) ?_
          refine wcV_i (As := [.int (nI k), .int (bI z)]) (rest := []) ⟨hx, hb, hml, hown, hts⟩ (w_X_writeDown l hPX htc hnc hac (D_l hD) h0 hk h40) (cwV 2 hts gL_act_X0_writeDown rfl rfl rfl hdX0_writeDown ⟨Nat.le_of_ble_eq_true rfl, Nat.le_of_ble_eq_true rfl⟩) (va_recv hKX hPX (ci := 0) (q0 := 0) rfl rfl) hKX hS (fr_l hD hS hA) rfl hl.1 (Nat.le_of_ble_eq_true rfl) rfl dL_act_368 ⟨Nat.le_of_ble_eq_true rfl, Nat.le_of_ble_eq_true rfl⟩ (fun H1 locs hP1 hz1 hk1 hS => ?_)
          have hP := up_l hP hD hk1 hP1
          have hD : va_D A (wX cI cZ q tc (nc + 1) ac (ch + nI (ct (sC B L (nI k) z ((spx (fun j => zz (upd U nc (nI k)) (updB Z nc z) (nc + 1) j) (pw tc)).1)) ac)) (upd U nc (nI k)) (updB Z nc z) (mrg (sB B L (nI k) z ((spx (fun j => zz (upd U nc (nI k)) (updB Z nc z) (nc + 1) j) (pw tc)).1)) B ac) (mrg (sL B L F (nI k) z ((spx (fun j => zz (upd U nc (nI k)) (updB Z nc z) (nc + 1) j) (pw tc)).1)) L ac) F ++ wS cI cR r nr ar tc nc ac ch U Z B L F) := va_D_re hD rfl
          clear hP1 hk1 hz1 hPX hPS
          generalize H1 = H at hP hS ⊢
          have hP : va_P D vwCl (wX cI cZ q tc (nc + 1) ac (ch + nI (ct (sC B L (nI k) z ((spx (fun j => zz (upd U nc (nI k)) (updB Z nc z) (nc + 1) j) (pw tc)).1)) ac)) (upd U nc (nI k)) (updB Z nc z) (mrg (sB B L (nI k) z ((spx (fun j => zz (upd U nc (nI k)) (updB Z nc z) (nc + 1) j) (pw tc)).1)) B ac) (mrg (sL B L F (nI k) z ((spx (fun j => zz (upd U nc (nI k)) (updB Z nc z) (nc + 1) j) (pw tc)).1)) L ac) F ++ wS cI cR r nr ar tc nc ac ch U Z B L F) H := hP
          have hPX : va_P D vwCl (wX cI cZ q tc (nc + 1) ac (ch + nI (ct (sC B L (nI k) z ((spx (fun j => zz (upd U nc (nI k)) (updB Z nc z) (nc + 1) j) (pw tc)).1)) ac)) (upd U nc (nI k)) (updB Z nc z) (mrg (sB B L (nI k) z ((spx (fun j => zz (upd U nc (nI k)) (updB Z nc z) (nc + 1) j) (pw tc)).1)) B ac) (mrg (sL B L F (nI k) z ((spx (fun j => zz (upd U nc (nI k)) (updB Z nc z) (nc + 1) j) (pw tc)).1)) L ac) F) H := P_l hP
          have hPS : va_P D vwCl (wS cI cR r nr ar tc nc ac ch U Z B L F) H := P_r hP
          refine lv_aload_n hx hb dL_act_371 rfl (lv_at hl 3 rfl) ?_
          refine lv_iload_n hx hb dL_act_372 rfl (lv_at hl 1 rfl) ?_
          refine lv_iload hx hb dL_act_373 (lv_at hl 0 rfl) ?_
          have hFr := fr_r hD hS hA
          refine va_calli (va_runV (As := [.int (nI k), .int (bI z)]) (rest := [.int (nI (ct (sC B L (nI k) z ((spx (fun j => zz (upd U nc (nI k)) (updB Z nc z) (nc + 1) j) (pw tc)).1)) ac))]) ⟨hx, hb, hml, hown, hts⟩ (w_S_write l hPS htc hnc hac (D_r hD) hU hB hk h40) (cwV 2 hts gL_act_X1_write rfl rfl rfl hdX1_write ⟨Nat.le_of_ble_eq_true rfl, Nat.le_of_ble_eq_true rfl⟩) ⟨rdo_blind, (va_recv hK hPS (ci := 1) (q0 := 0) rfl rfl), rdo_pre hK hov⟩ rfl rfl hl.1 rfl (lv_room (Nat.le_of_ble_eq_true rfl)) dL_act_375 ⟨Nat.le_of_ble_eq_true rfl, Nat.le_of_ble_eq_true rfl⟩) hS (fun z _ h => hFr z h) hFr (fun r9 u t9 H1 locs ht9 hvm9 hw9 hB9 hz1 hk1 hS => ?_)
          obtain ⟨q9, b9, hP9, hD9⟩ := hB9
          rw [ht9] at hP9
          subst hw9
          have hD1 := up_rD hP hD hFr hD9
          have hP := up_r hP hD hk1 hP9
          have hD : va_D A (wX cI cZ q tc (nc + 1) ac (ch + nI (ct (sC B L (nI k) z ((spx (fun j => zz (upd U nc (nI k)) (updB Z nc z) (nc + 1) j) (pw tc)).1)) ac)) (upd U nc (nI k)) (updB Z nc z) (mrg (sB B L (nI k) z ((spx (fun j => zz (upd U nc (nI k)) (updB Z nc z) (nc + 1) j) (pw tc)).1)) B ac) (mrg (sL B L F (nI k) z ((spx (fun j => zz (upd U nc (nI k)) (updB Z nc z) (nc + 1) j) (pw tc)).1)) L ac) F ++ wS cI cR (rr r 1 q9) (va_up nr nc b9) ar tc (nc + 1) ac (ch + nI (ct (sC B L (nI k) z ((spx (fun j => zz (upd U nc (nI k)) (updB Z nc z) (nc + 1) j) (pw tc)).1)) ac)) (upd U nc (nI k)) (updB Z nc z) (mrg (sB B L (nI k) z ((spx (fun j => zz (upd U nc (nI k)) (updB Z nc z) (nc + 1) j) (pw tc)).1)) B ac) (mrg (sL B L F (nI k) z ((spx (fun j => zz (upd U nc (nI k)) (updB Z nc z) (nc + 1) j) (pw tc)).1)) L ac) F) := hD1
          clear hP9 hk1 hz1 hPX hPS hD1 hD9 hFr
          generalize H1 = H at hP hS ⊢
          have hP : va_P D vwCl (wX cI cZ q tc (nc + 1) ac (ch + nI (ct (sC B L (nI k) z ((spx (fun j => zz (upd U nc (nI k)) (updB Z nc z) (nc + 1) j) (pw tc)).1)) ac)) (upd U nc (nI k)) (updB Z nc z) (mrg (sB B L (nI k) z ((spx (fun j => zz (upd U nc (nI k)) (updB Z nc z) (nc + 1) j) (pw tc)).1)) B ac) (mrg (sL B L F (nI k) z ((spx (fun j => zz (upd U nc (nI k)) (updB Z nc z) (nc + 1) j) (pw tc)).1)) L ac) F ++ wS cI cR (rr r 1 q9) (va_up nr nc b9) ar tc (nc + 1) ac (ch + nI (ct (sC B L (nI k) z ((spx (fun j => zz (upd U nc (nI k)) (updB Z nc z) (nc + 1) j) (pw tc)).1)) ac)) (upd U nc (nI k)) (updB Z nc z) (mrg (sB B L (nI k) z ((spx (fun j => zz (upd U nc (nI k)) (updB Z nc z) (nc + 1) j) (pw tc)).1)) B ac) (mrg (sL B L F (nI k) z ((spx (fun j => zz (upd U nc (nI k)) (updB Z nc z) (nc + 1) j) (pw tc)).1)) L ac) F) H := hP
          have hPX : va_P D vwCl (wX cI cZ q tc (nc + 1) ac (ch + nI (ct (sC B L (nI k) z ((spx (fun j => zz (upd U nc (nI k)) (updB Z nc z) (nc + 1) j) (pw tc)).1)) ac)) (upd U nc (nI k)) (updB Z nc z) (mrg (sB B L (nI k) z ((spx (fun j => zz (upd U nc (nI k)) (updB Z nc z) (nc + 1) j) (pw tc)).1)) B ac) (mrg (sL B L F (nI k) z ((spx (fun j => zz (upd U nc (nI k)) (updB Z nc z) (nc + 1) j) (pw tc)).1)) L ac) F) H := P_l hP
          have hPS : va_P D vwCl (wS cI cR (rr r 1 q9) (va_up nr nc b9) ar tc (nc + 1) ac (ch + nI (ct (sC B L (nI k) z ((spx (fun j => zz (upd U nc (nI k)) (updB Z nc z) (nc + 1) j) (pw tc)).1)) ac)) (upd U nc (nI k)) (updB Z nc z) (mrg (sB B L (nI k) z ((spx (fun j => zz (upd U nc (nI k)) (updB Z nc z) (nc + 1) j) (pw tc)).1)) B ac) (mrg (sL B L F (nI k) z ((spx (fun j => zz (upd U nc (nI k)) (updB Z nc z) (nc + 1) j) (pw tc)).1)) L ac) F) H := P_r hP
          refine lv_icmp_ne (tgt := 385) hx hb dL_act_378 (by decide) (fun c378 => absurd rfl c378) (fun c378 => ?_)
          refine lv_iconst (v := 1) hx hb dL_act_381 (by decide) ?_
          refine lv_goto (tgt := 386) hx hb dL_act_382 (by decide) ?_
          refine W.widen (k := 400) (n := 70000) (by decide) (by decide) ?_
          exact W.zret (v := 1) (ty := .boolean) hx hb hr rfl (fun t9 ht9 hW9 => ⟨⟨1, (), rfl, rfl, _, _, _, _, _, _, _, _, _, (rr r 1 q9), _, _, rfl, (gd_write hG h40 hk z), by rw [ht9]; exact hP, hD⟩, hS.F ht9⟩) hS.2.2 dL_act_386
        · skip
          refine lv_iload_n hx hb dL_act_321 rfl (lv_at hl 3 rfl) ?_
          refine lv_bipush (v := 9) hx hb dL_act_322 (by decide) ?_
          refine lv_ishr hx hb dL_act_324 ?_
          refine lv_bipush (v := 6) hx hb dL_act_325 (by decide) ?_
          refine lv_cst (y := nI 6) rfl ?_
          refine pcS_i (As := [.int (x >>> (9 &&& 31)), .int (nI 6)]) (rest := []) ⟨hx, hb, hml, hown, hts⟩ (g_L_below l (v := (x >>> (9 &&& 31))) (n := 6) (by omega) (by omega)) (va_cwS 2 hts gL_act_L_below rfl rfl rfl hdL_below ⟨Nat.le_of_ble_eq_true rfl, Nat.le_of_ble_eq_true rfl⟩) rfl hl.1 (Nat.le_of_ble_eq_true rfl) rfl dL_act_327 ⟨Nat.le_of_ble_eq_true rfl, Nat.le_of_ble_eq_true rfl⟩ ?_
          refine lv_if_ne (tgt := 351) hx hb dL_act_330 (by decide) (fun c330 => ?_) (fun c330 => ?_)
          · skip
            refine lv_iload_n hx hb dL_act_351 rfl (lv_at hl 0 rfl) ?_
            refine lv_iconst (v := 5) hx hb dL_act_352 (by decide) ?_
            refine lv_iand hx hb dL_act_353 ?_
            refine lv_if_eq (tgt := 361) hx hb dL_act_354 (by decide) (fun c354 => ?_) (fun c354 => ?_)
            · skip
              refine lv_iconst (v := 0) hx hb dL_act_361 (by decide) ?_
              exact K false
            · skip
              refine lv_iconst (v := 1) hx hb dL_act_357 (by decide) ?_
              refine lv_goto (tgt := 362) hx hb dL_act_358 (by decide) ?_
              exact K true
          · skip
            refine lv_iload_n hx hb dL_act_333 rfl (lv_at hl 3 rfl) ?_
            refine lv_iconst (v := 3) hx hb dL_act_334 (by decide) ?_
            refine lv_ishr hx hb dL_act_335 ?_
            refine lv_iconst (v := 2) hx hb dL_act_336 (by decide) ?_
            refine lv_cst (y := nI 2) rfl ?_
            refine pcS_i (As := [.int (x >>> (3 &&& 31)), .int (nI 2)]) (rest := []) ⟨hx, hb, hml, hown, hts⟩ (g_L_below l (v := (x >>> (3 &&& 31))) (n := 2) (by omega) (by omega)) (va_cwS 2 hts gL_act_L_below rfl rfl rfl hdL_below ⟨Nat.le_of_ble_eq_true rfl, Nat.le_of_ble_eq_true rfl⟩) rfl hl.1 (Nat.le_of_ble_eq_true rfl) rfl dL_act_337 ⟨Nat.le_of_ble_eq_true rfl, Nat.le_of_ble_eq_true rfl⟩ ?_
            refine lv_if_ne (tgt := 347) hx hb dL_act_340 (by decide) (fun c340 => ?_) (fun c340 => ?_)
            · skip
              refine lv_iconst (v := 0) hx hb dL_act_347 (by decide) ?_
              refine lv_goto (tgt := 362) hx hb dL_act_348 (by decide) ?_
              exact K false
            · skip
              refine lv_iconst (v := 1) hx hb dL_act_343 (by decide) ?_
              refine lv_goto (tgt := 362) hx hb dL_act_344 (by decide) ?_
              exact K true
      · skip
        refine lv_iconst (v := 1) hx hb dL_act_319 (by decide) ?_
        refine W.widen (k := 400) (n := 70000) (by decide) (by decide) ?_
        exact W.zret (v := 1) (ty := .boolean) hx hb hr rfl (fun t9 ht9 hW9 => ⟨⟨1, (), rfl, rfl, _, _, _, _, _, _, _, _, _, r, _, _, rfl, hG, by rw [ht9]; exact hP, hD⟩, hS.F ht9⟩) hS.2.2 dL_act_320
