/-! SmudgedStar: contracts of its methods -/
set_option maxHeartbeats 4000000 in
set_option maxRecDepth 100000 in
theorem g_X_nightsWith (l : Launch) {D : va_G} {cI cZ : ClassId} {q : Nat → Nat} {tc nc ac : Nat} {ch : Int32} {U : Nat → Int32} {Z : Nat → Bool} {B L F : Nat → Int32} {H : Heap} (hP : va_P D vwCl (wX cI cZ q tc nc ac ch U Z B L F) H) (htc : tc ≤ 8) (hnc : nc ≤ 40) (hac : ac ≤ 8) {t : Nat} (ht : t < tc) : Met l yX0_nightsWith wsX0_nightsWith ({ frames := 2, cells := 0, slots := 0, locals := 41 }) (va_Pc [.ref (q 0), .int (nI t)] (rd D vwCl (tyA cI cZ) H)) (vp_Si (fun r => r = nI (ct (fun j => ho (U j) (nI t)) nc))) 0 0 (fun _ => False) := by
  refine Met.ofW (cc := cX0_nightsWith) (maxL := 4) (ret := (some .int)) (by decide) rfl ?_
  intro p e s m args below meth c s₁ B9 hml hv
  obtain ⟨rfl, hH, hK⟩ := hv
  subst hH
  have hx := B9.exec
  have hb := B9.bytes
  have hr := B9.returns
  have hts := atoms_spec (ws := wsX0_nightsWith) B9.pre
  have hown : s.vm.findClass RX0 = some m.cls := findClass_of_methodNamed B9.named
  have hlocks := B9.notSynchronized
  have hin : ∀ w ∈ u_ws RX0 TX0 10, w ∈ wsX0_nightsWith := fun w h => List.mem_cons_of_mem _ (List.mem_append_left _ (List.mem_append_right _ h))
  have hl := lv_entry ([.ref (q 0), .int (nI t)]) (n := 4) (Nat.le_of_ble_eq_true rfl)
  rw [lg_entry_eq]
  generalize (lg_sl ([.ref (q 0), .int (nI t)]) ++ List.replicate (4 - (lg_sl ([.ref (q 0), .int (nI t)])).length) Slot.unset).toArray = ls at hl ⊢
  have hl : lv_has ls 4 [(0, .ref (q 0)), (1, .int (nI t))] := hl
  refine lv_aload_n hx hb dX0_nightsWith_0 rfl (lv_at hl 0 rfl) ?_
  refine lv_iload_n hx hb dX0_nightsWith_1 rfl (lv_at hl 1 rfl) ?_
  refine pcV_v (As := [.int (nI t)]) (rest := []) ⟨hx, hb, hml, hown, hts⟩ (g_X_requireThing l hP htc hnc hac ht) (cwV 1 hts gX0_nightsWith_X0_requireThing rfl rfl rfl hdX0_requireThing ⟨Nat.le_of_ble_eq_true rfl, Nat.le_of_ble_eq_true rfl⟩) (va_recv hK hP (ci := 0) (q0 := 0) rfl rfl) hK rfl hl.1 (Nat.le_of_ble_eq_true rfl) rfl dX0_nightsWith_2 ⟨Nat.le_of_ble_eq_true rfl, Nat.le_of_ble_eq_true rfl⟩ ?_
  refine lv_iconst (v := 0) hx hb dX0_nightsWith_5 (by decide) ?_
  refine lv_istore_n (lv' := [(2, .int 0), (0, .ref (q 0)), (1, .int (nI t))]) hx hb dX0_nightsWith_6 rfl hl (by decide) rfl (fun ls hl => ?_)
  refine lv_iconst (v := 0) hx hb dX0_nightsWith_7 (by decide) ?_
  refine lv_istore_n (lv' := [(3, .int 0), (2, .int 0), (0, .ref (q 0)), (1, .int (nI t))]) hx hb dX0_nightsWith_8 rfl hl (by decide) rfl (fun ls hl => ?_)
  refine w_loop (N := nc) (T := fun i => [(3, .int (nI i)), (2, .int (nI (ct (fun j => ho (U j) (nI t)) i))), (0, .ref (q 0)), (1, .int (nI t))]) (I := fun _ => True) 0 (Nat.zero_le _) trivial (lv_sub hl [0, 1, 2, 3] rfl) (fun i ls hi hI hl ih => ?_)
  have hl : lv_has ls 4 [(3, .int (nI i)), (2, .int (nI (ct (fun j => ho (U j) (nI t)) i))), (0, .ref (q 0)), (1, .int (nI t))] := hl
  refine lv_iload_n hx hb dX0_nightsWith_9 rfl (lv_at hl 0 rfl) ?_
  refine lv_aload_n hx hb dX0_nightsWith_10 rfl (lv_at hl 2 rfl) ?_
  refine va_get (D := D) (ci := 0) (v := .int (nI nc)) (C := RX0) (T := TX0) (N := 10) hx hb hts hin hown hK hP 0 rfl rfl 1 (by decide) (hts (.fieldLink RX0 13 "SmudgedStar" "nightCount" "I") (List.mem_of_getElem? (i := 1) rfl)) (fun _ h9 => h9) rfl dX0_nightsWith_11 ?_
  refine lv_icmp_ge (tgt := 39) hx hb dX0_nightsWith_14 (by decide) (fun c14 => ?_) (fun c14 => ?_)
  · skip
    have hie : i = nc := gd_ge_t (by omega) hi c14
    rw [hie] at hl
    refine lv_iload_n hx hb dX0_nightsWith_39 rfl (lv_at hl 1 rfl) ?_
    exact W.iret (v := nI (ct (fun j => ho (U j) (nI t)) nc)) hx hb hr (fun t9 ht9 hW9 => ⟨nI (ct (fun j => ho (U j) (nI t)) nc), rfl, rfl, ht9⟩) (fun _ h => absurd h List.not_mem_nil) dX0_nightsWith_40
  · skip
    have hlt : i < nc := gd_ge_f hi c14
    refine lv_aload_n hx hb dX0_nightsWith_17 rfl (lv_at hl 2 rfl) ?_
    refine va_get (D := D) (ci := 0) (v := .ref (q 1)) (C := RX0) (T := TX0) (N := 10) hx hb hts hin hown hK hP 0 rfl rfl 2 (by decide) (hts (.fieldLink RX0 16 "SmudgedStar" "usedThings" "[I") (List.mem_of_getElem? (i := 2) rfl)) (fun _ h9 => h9) rfl dX0_nightsWith_18 ?_
    refine lv_iload_n hx hb dX0_nightsWith_21 rfl (lv_at hl 0 rfl) ?_
    refine ia_ld hx hb hK hP 1 0 rfl rfl (j := i) (by omega) (by decide) dX0_nightsWith_22 ?_
    refine lv_iload_n hx hb dX0_nightsWith_23 rfl (lv_at hl 3 rfl) ?_
    refine pcS_i (As := [.int (U i), .int (nI t)]) (rest := []) ⟨hx, hb, hml, hown, hts⟩ (g_X_holds l (U i) (nI t)) (va_cwS 2 hts gX0_nightsWith_X0_holds rfl rfl rfl hdX0_holds ⟨Nat.le_of_ble_eq_true rfl, Nat.le_of_ble_eq_true rfl⟩) rfl hl.1 (Nat.le_of_ble_eq_true rfl) rfl dX0_nightsWith_24 ⟨Nat.le_of_ble_eq_true rfl, Nat.le_of_ble_eq_true rfl⟩ ?_
    refine lv_ifb_eq (tgt := 33) hx hb dX0_nightsWith_27 (by decide) (fun c27 => ?_) (fun c27 => ?_)
    · skip
      refine lv_iinc (v := nI (i + 1)) (lv' := [(3, .int (nI (i + 1))), (2, .int (nI (ct (fun j => ho (U j) (nI t)) i))), (0, .ref (q 0)), (1, .int (nI t))]) hx hb dX0_nightsWith_33 hl (k := 0) rfl (nI_1 _) (by decide) rfl (fun ls hl => ?_)
      refine lv_goto (tgt := 9) hx hb dX0_nightsWith_36 (by decide) ?_
      have e2 : (nI (ct (fun j => ho (U j) (nI t)) i)) = nI (ct (fun j => ho (U j) (nI t)) (i + 1)) := by first | exact ct_t1 (by simp [c14, c27]) | exact ct_t (by simp [c14, c27]) | exact ct_f (by simp [c14, c27]) | exact ct_f0 (by simp [c14, c27])
      have hl := lv_sub (l' := [(3, .int (nI (i + 1))), (2, .int (nI (ct (fun j => ho (U j) (nI t)) i))), (0, .ref (q 0)), (1, .int (nI t))]) hl [0, 1, 2, 3] rfl
      rw [e2] at hl
      exact ih ls hlt trivial hl
    · skip
      refine lv_iinc (v := nI ((ct (fun j => ho (U j) (nI t)) i) + 1)) (lv' := [(2, .int (nI ((ct (fun j => ho (U j) (nI t)) i) + 1))), (3, .int (nI i)), (0, .ref (q 0)), (1, .int (nI t))]) hx hb dX0_nightsWith_30 hl (k := 1) rfl (nI_1 _) (by decide) rfl (fun ls hl => ?_)
      refine lv_iinc (v := nI (i + 1)) (lv' := [(3, .int (nI (i + 1))), (2, .int (nI ((ct (fun j => ho (U j) (nI t)) i) + 1))), (0, .ref (q 0)), (1, .int (nI t))]) hx hb dX0_nightsWith_33 hl (k := 1) rfl (nI_1 _) (by decide) rfl (fun ls hl => ?_)
      refine lv_goto (tgt := 9) hx hb dX0_nightsWith_36 (by decide) ?_
      have e2 : (nI ((ct (fun j => ho (U j) (nI t)) i) + 1)) = nI (ct (fun j => ho (U j) (nI t)) (i + 1)) := by first | exact ct_t1 (by simp [c14, c27]) | exact ct_t (by simp [c14, c27]) | exact ct_f (by simp [c14, c27]) | exact ct_f0 (by simp [c14, c27])
      have hl := lv_sub (l' := [(3, .int (nI (i + 1))), (2, .int (nI ((ct (fun j => ho (U j) (nI t)) i) + 1))), (0, .ref (q 0)), (1, .int (nI t))]) hl [0, 1, 2, 3] rfl
      rw [e2] at hl
      exact ih ls hlt trivial hl
set_option maxHeartbeats 4000000 in
set_option maxRecDepth 100000 in
theorem g_X_smudgesWith (l : Launch) {D : va_G} {cI cZ : ClassId} {q : Nat → Nat} {tc nc ac : Nat} {ch : Int32} {U : Nat → Int32} {Z : Nat → Bool} {B L F : Nat → Int32} {H : Heap} (hP : va_P D vwCl (wX cI cZ q tc nc ac ch U Z B L F) H) (htc : tc ≤ 8) (hnc : nc ≤ 40) (hac : ac ≤ 8) {t : Nat} (ht : t < tc) : Met l yX0_smudgesWith wsX0_smudgesWith ({ frames := 2, cells := 0, slots := 0, locals := 41 }) (va_Pc [.ref (q 0), .int (nI t)] (rd D vwCl (tyA cI cZ) H)) (vp_Si (fun r => r = nI (ct (fun j => Z j && ho (U j) (nI t)) nc))) 0 0 (fun _ => False) := by
  refine Met.ofW (cc := cX0_smudgesWith) (maxL := 4) (ret := (some .int)) (by decide) rfl ?_
  intro p e s m args below meth c s₁ B9 hml hv
  obtain ⟨rfl, hH, hK⟩ := hv
  subst hH
  have hx := B9.exec
  have hb := B9.bytes
  have hr := B9.returns
  have hts := atoms_spec (ws := wsX0_smudgesWith) B9.pre
  have hown : s.vm.findClass RX0 = some m.cls := findClass_of_methodNamed B9.named
  have hlocks := B9.notSynchronized
  have hin : ∀ w ∈ u_ws RX0 TX0 10, w ∈ wsX0_smudgesWith := fun w h => List.mem_cons_of_mem _ (List.mem_append_left _ (List.mem_append_right _ h))
  have hl := lv_entry ([.ref (q 0), .int (nI t)]) (n := 4) (Nat.le_of_ble_eq_true rfl)
  rw [lg_entry_eq]
  generalize (lg_sl ([.ref (q 0), .int (nI t)]) ++ List.replicate (4 - (lg_sl ([.ref (q 0), .int (nI t)])).length) Slot.unset).toArray = ls at hl ⊢
  have hl : lv_has ls 4 [(0, .ref (q 0)), (1, .int (nI t))] := hl
  refine lv_aload_n hx hb dX0_smudgesWith_0 rfl (lv_at hl 0 rfl) ?_
  refine lv_iload_n hx hb dX0_smudgesWith_1 rfl (lv_at hl 1 rfl) ?_
  refine pcV_v (As := [.int (nI t)]) (rest := []) ⟨hx, hb, hml, hown, hts⟩ (g_X_requireThing l hP htc hnc hac ht) (cwV 1 hts gX0_smudgesWith_X0_requireThing rfl rfl rfl hdX0_requireThing ⟨Nat.le_of_ble_eq_true rfl, Nat.le_of_ble_eq_true rfl⟩) (va_recv hK hP (ci := 0) (q0 := 0) rfl rfl) hK rfl hl.1 (Nat.le_of_ble_eq_true rfl) rfl dX0_smudgesWith_2 ⟨Nat.le_of_ble_eq_true rfl, Nat.le_of_ble_eq_true rfl⟩ ?_
  refine lv_iconst (v := 0) hx hb dX0_smudgesWith_5 (by decide) ?_
  refine lv_istore_n (lv' := [(2, .int 0), (0, .ref (q 0)), (1, .int (nI t))]) hx hb dX0_smudgesWith_6 rfl hl (by decide) rfl (fun ls hl => ?_)
  refine lv_iconst (v := 0) hx hb dX0_smudgesWith_7 (by decide) ?_
  refine lv_istore_n (lv' := [(3, .int 0), (2, .int 0), (0, .ref (q 0)), (1, .int (nI t))]) hx hb dX0_smudgesWith_8 rfl hl (by decide) rfl (fun ls hl => ?_)
  refine w_loop (N := nc) (T := fun i => [(3, .int (nI i)), (2, .int (nI (ct (fun j => Z j && ho (U j) (nI t)) i))), (0, .ref (q 0)), (1, .int (nI t))]) (I := fun _ => True) 0 (Nat.zero_le _) trivial (lv_sub hl [0, 1, 2, 3] rfl) (fun i ls hi hI hl ih => ?_)
  have hl : lv_has ls 4 [(3, .int (nI i)), (2, .int (nI (ct (fun j => Z j && ho (U j) (nI t)) i))), (0, .ref (q 0)), (1, .int (nI t))] := hl
  refine lv_iload_n hx hb dX0_smudgesWith_9 rfl (lv_at hl 0 rfl) ?_
  refine lv_aload_n hx hb dX0_smudgesWith_10 rfl (lv_at hl 2 rfl) ?_
  refine va_get (D := D) (ci := 0) (v := .int (nI nc)) (C := RX0) (T := TX0) (N := 10) hx hb hts hin hown hK hP 0 rfl rfl 1 (by decide) (hts (.fieldLink RX0 13 "SmudgedStar" "nightCount" "I") (List.mem_of_getElem? (i := 1) rfl)) (fun _ h9 => h9) rfl dX0_smudgesWith_11 ?_
  refine lv_icmp_ge (tgt := 48) hx hb dX0_smudgesWith_14 (by decide) (fun c14 => ?_) (fun c14 => ?_)
  · skip
    have hie : i = nc := gd_ge_t (by omega) hi c14
    rw [hie] at hl
    refine lv_iload_n hx hb dX0_smudgesWith_48 rfl (lv_at hl 1 rfl) ?_
    exact W.iret (v := nI (ct (fun j => Z j && ho (U j) (nI t)) nc)) hx hb hr (fun t9 ht9 hW9 => ⟨nI (ct (fun j => Z j && ho (U j) (nI t)) nc), rfl, rfl, ht9⟩) (fun _ h => absurd h List.not_mem_nil) dX0_smudgesWith_49
  · skip
    have hlt : i < nc := gd_ge_f hi c14
    refine lv_aload_n hx hb dX0_smudgesWith_17 rfl (lv_at hl 2 rfl) ?_
    refine va_get (D := D) (ci := 0) (v := .ref (q 2)) (C := RX0) (T := TX0) (N := 10) hx hb hts hin hown hK hP 0 rfl rfl 3 (by decide) (hts (.fieldLink RX0 20 "SmudgedStar" "smudgeSeen" "[Z") (List.mem_of_getElem? (i := 2) rfl)) (fun _ h9 => h9) rfl dX0_smudgesWith_18 ?_
    refine lv_iload_n hx hb dX0_smudgesWith_21 rfl (lv_at hl 0 rfl) ?_
    refine za_ld (f := Z) hx hb hK hP 2 1 rfl rfl (j := i) (by omega) (by decide) dX0_smudgesWith_22 ?_
    refine lv_ifb_eq (tgt := 42) hx hb dX0_smudgesWith_23 (by decide) (fun c23 => ?_) (fun c23 => ?_)
    · skip
      refine lv_iinc (v := nI (i + 1)) (lv' := [(3, .int (nI (i + 1))), (2, .int (nI (ct (fun j => Z j && ho (U j) (nI t)) i))), (0, .ref (q 0)), (1, .int (nI t))]) hx hb dX0_smudgesWith_42 hl (k := 0) rfl (nI_1 _) (by decide) rfl (fun ls hl => ?_)
      refine lv_goto (tgt := 9) hx hb dX0_smudgesWith_45 (by decide) ?_
      have e2 : (nI (ct (fun j => Z j && ho (U j) (nI t)) i)) = nI (ct (fun j => Z j && ho (U j) (nI t)) (i + 1)) := by first | exact ct_t1 (by simp [c14, c23]) | exact ct_t (by simp [c14, c23]) | exact ct_f (by simp [c14, c23]) | exact ct_f0 (by simp [c14, c23])
      have hl := lv_sub (l' := [(3, .int (nI (i + 1))), (2, .int (nI (ct (fun j => Z j && ho (U j) (nI t)) i))), (0, .ref (q 0)), (1, .int (nI t))]) hl [0, 1, 2, 3] rfl
      rw [e2] at hl
      exact ih ls hlt trivial hl
    · skip
      refine lv_aload_n hx hb dX0_smudgesWith_26 rfl (lv_at hl 2 rfl) ?_
      refine va_get (D := D) (ci := 0) (v := .ref (q 1)) (C := RX0) (T := TX0) (N := 10) hx hb hts hin hown hK hP 0 rfl rfl 2 (by decide) (hts (.fieldLink RX0 16 "SmudgedStar" "usedThings" "[I") (List.mem_of_getElem? (i := 3) rfl)) (fun _ h9 => h9) rfl dX0_smudgesWith_27 ?_
      refine lv_iload_n hx hb dX0_smudgesWith_30 rfl (lv_at hl 0 rfl) ?_
      refine ia_ld hx hb hK hP 1 0 rfl rfl (j := i) (by omega) (by decide) dX0_smudgesWith_31 ?_
      refine lv_iload_n hx hb dX0_smudgesWith_32 rfl (lv_at hl 3 rfl) ?_
      refine pcS_i (As := [.int (U i), .int (nI t)]) (rest := []) ⟨hx, hb, hml, hown, hts⟩ (g_X_holds l (U i) (nI t)) (va_cwS 2 hts gX0_smudgesWith_X0_holds rfl rfl rfl hdX0_holds ⟨Nat.le_of_ble_eq_true rfl, Nat.le_of_ble_eq_true rfl⟩) rfl hl.1 (Nat.le_of_ble_eq_true rfl) rfl dX0_smudgesWith_33 ⟨Nat.le_of_ble_eq_true rfl, Nat.le_of_ble_eq_true rfl⟩ ?_
      refine lv_ifb_eq (tgt := 42) hx hb dX0_smudgesWith_36 (by decide) (fun c36 => ?_) (fun c36 => ?_)
      · skip
        refine lv_iinc (v := nI (i + 1)) (lv' := [(3, .int (nI (i + 1))), (2, .int (nI (ct (fun j => Z j && ho (U j) (nI t)) i))), (0, .ref (q 0)), (1, .int (nI t))]) hx hb dX0_smudgesWith_42 hl (k := 0) rfl (nI_1 _) (by decide) rfl (fun ls hl => ?_)
        refine lv_goto (tgt := 9) hx hb dX0_smudgesWith_45 (by decide) ?_
        have e2 : (nI (ct (fun j => Z j && ho (U j) (nI t)) i)) = nI (ct (fun j => Z j && ho (U j) (nI t)) (i + 1)) := by first | exact ct_t1 (by simp [c14, c23, c36]) | exact ct_t (by simp [c14, c23, c36]) | exact ct_f (by simp [c14, c23, c36]) | exact ct_f0 (by simp [c14, c23, c36])
        have hl := lv_sub (l' := [(3, .int (nI (i + 1))), (2, .int (nI (ct (fun j => Z j && ho (U j) (nI t)) i))), (0, .ref (q 0)), (1, .int (nI t))]) hl [0, 1, 2, 3] rfl
        rw [e2] at hl
        exact ih ls hlt trivial hl
      · skip
        refine lv_iinc (v := nI ((ct (fun j => Z j && ho (U j) (nI t)) i) + 1)) (lv' := [(2, .int (nI ((ct (fun j => Z j && ho (U j) (nI t)) i) + 1))), (3, .int (nI i)), (0, .ref (q 0)), (1, .int (nI t))]) hx hb dX0_smudgesWith_39 hl (k := 1) rfl (nI_1 _) (by decide) rfl (fun ls hl => ?_)
        refine lv_iinc (v := nI (i + 1)) (lv' := [(3, .int (nI (i + 1))), (2, .int (nI ((ct (fun j => Z j && ho (U j) (nI t)) i) + 1))), (0, .ref (q 0)), (1, .int (nI t))]) hx hb dX0_smudgesWith_42 hl (k := 1) rfl (nI_1 _) (by decide) rfl (fun ls hl => ?_)
        refine lv_goto (tgt := 9) hx hb dX0_smudgesWith_45 (by decide) ?_
        have e2 : (nI ((ct (fun j => Z j && ho (U j) (nI t)) i) + 1)) = nI (ct (fun j => Z j && ho (U j) (nI t)) (i + 1)) := by first | exact ct_t1 (by simp [c14, c23, c36]) | exact ct_t (by simp [c14, c23, c36]) | exact ct_f (by simp [c14, c23, c36]) | exact ct_f0 (by simp [c14, c23, c36])
        have hl := lv_sub (l' := [(3, .int (nI (i + 1))), (2, .int (nI ((ct (fun j => Z j && ho (U j) (nI t)) i) + 1))), (0, .ref (q 0)), (1, .int (nI t))]) hl [0, 1, 2, 3] rfl
        rw [e2] at hl
        exact ih ls hlt trivial hl
set_option maxHeartbeats 4000000 in
set_option maxRecDepth 100000 in
theorem g_X_votesFor (l : Launch) {D : va_G} {cI cZ : ClassId} {q : Nat → Nat} {tc nc ac : Nat} {ch : Int32} {U : Nat → Int32} {Z : Nat → Bool} {B L F : Nat → Int32} {H : Heap} (hP : va_P D vwCl (wX cI cZ q tc nc ac ch U Z B L F) H) (htc : tc ≤ 8) (hnc : nc ≤ 40) (hac : ac ≤ 8) {t : Nat} (ht : t < tc) : Met l yX0_votesFor wsX0_votesFor ({ frames := 2, cells := 0, slots := 0, locals := 41 }) (va_Pc [.ref (q 0), .int (nI t)] (rd D vwCl (tyA cI cZ) H)) (vp_Si (fun r => r = nI (ct (fun a => ho (B a) (nI t)) ac))) 0 0 (fun _ => False) := by
  refine Met.ofW (cc := cX0_votesFor) (maxL := 4) (ret := (some .int)) (by decide) rfl ?_
  intro p e s m args below meth c s₁ B9 hml hv
  obtain ⟨rfl, hH, hK⟩ := hv
  subst hH
  have hx := B9.exec
  have hb := B9.bytes
  have hr := B9.returns
  have hts := atoms_spec (ws := wsX0_votesFor) B9.pre
  have hown : s.vm.findClass RX0 = some m.cls := findClass_of_methodNamed B9.named
  have hlocks := B9.notSynchronized
  have hin : ∀ w ∈ u_ws RX0 TX0 10, w ∈ wsX0_votesFor := fun w h => List.mem_cons_of_mem _ (List.mem_append_left _ (List.mem_append_right _ h))
  have hl := lv_entry ([.ref (q 0), .int (nI t)]) (n := 4) (Nat.le_of_ble_eq_true rfl)
  rw [lg_entry_eq]
  generalize (lg_sl ([.ref (q 0), .int (nI t)]) ++ List.replicate (4 - (lg_sl ([.ref (q 0), .int (nI t)])).length) Slot.unset).toArray = ls at hl ⊢
  have hl : lv_has ls 4 [(0, .ref (q 0)), (1, .int (nI t))] := hl
  refine lv_aload_n hx hb dX0_votesFor_0 rfl (lv_at hl 0 rfl) ?_
  refine lv_iload_n hx hb dX0_votesFor_1 rfl (lv_at hl 1 rfl) ?_
  refine pcV_v (As := [.int (nI t)]) (rest := []) ⟨hx, hb, hml, hown, hts⟩ (g_X_requireThing l hP htc hnc hac ht) (cwV 1 hts gX0_votesFor_X0_requireThing rfl rfl rfl hdX0_requireThing ⟨Nat.le_of_ble_eq_true rfl, Nat.le_of_ble_eq_true rfl⟩) (va_recv hK hP (ci := 0) (q0 := 0) rfl rfl) hK rfl hl.1 (Nat.le_of_ble_eq_true rfl) rfl dX0_votesFor_2 ⟨Nat.le_of_ble_eq_true rfl, Nat.le_of_ble_eq_true rfl⟩ ?_
  refine lv_iconst (v := 0) hx hb dX0_votesFor_5 (by decide) ?_
  refine lv_istore_n (lv' := [(2, .int 0), (0, .ref (q 0)), (1, .int (nI t))]) hx hb dX0_votesFor_6 rfl hl (by decide) rfl (fun ls hl => ?_)
  refine lv_iconst (v := 0) hx hb dX0_votesFor_7 (by decide) ?_
  refine lv_istore_n (lv' := [(3, .int 0), (2, .int 0), (0, .ref (q 0)), (1, .int (nI t))]) hx hb dX0_votesFor_8 rfl hl (by decide) rfl (fun ls hl => ?_)
  refine w_loop (N := ac) (T := fun i => [(3, .int (nI i)), (2, .int (nI (ct (fun a => ho (B a) (nI t)) i))), (0, .ref (q 0)), (1, .int (nI t))]) (I := fun _ => True) 0 (Nat.zero_le _) trivial (lv_sub hl [0, 1, 2, 3] rfl) (fun i ls hi hI hl ih => ?_)
  have hl : lv_has ls 4 [(3, .int (nI i)), (2, .int (nI (ct (fun a => ho (B a) (nI t)) i))), (0, .ref (q 0)), (1, .int (nI t))] := hl
  refine lv_iload_n hx hb dX0_votesFor_9 rfl (lv_at hl 0 rfl) ?_
  refine lv_aload_n hx hb dX0_votesFor_10 rfl (lv_at hl 2 rfl) ?_
  refine va_get (D := D) (ci := 0) (v := .int (nI ac)) (C := RX0) (T := TX0) (N := 10) hx hb hts hin hown hK hP 0 rfl rfl 5 (by decide) (hts (.fieldLink RX0 27 "SmudgedStar" "astronomerCount" "I") (List.mem_of_getElem? (i := 1) rfl)) (fun _ h9 => h9) rfl dX0_votesFor_11 ?_
  refine lv_icmp_ge (tgt := 39) hx hb dX0_votesFor_14 (by decide) (fun c14 => ?_) (fun c14 => ?_)
  · skip
    have hie : i = ac := gd_ge_t (by omega) hi c14
    rw [hie] at hl
    refine lv_iload_n hx hb dX0_votesFor_39 rfl (lv_at hl 1 rfl) ?_
    exact W.iret (v := nI (ct (fun a => ho (B a) (nI t)) ac)) hx hb hr (fun t9 ht9 hW9 => ⟨nI (ct (fun a => ho (B a) (nI t)) ac), rfl, rfl, ht9⟩) (fun _ h => absurd h List.not_mem_nil) dX0_votesFor_40
  · skip
    have hlt : i < ac := gd_ge_f hi c14
    refine lv_aload_n hx hb dX0_votesFor_17 rfl (lv_at hl 2 rfl) ?_
    refine va_get (D := D) (ci := 0) (v := .ref (q 4)) (C := RX0) (T := TX0) (N := 10) hx hb hts hin hown hK hP 0 rfl rfl 6 (by decide) (hts (.fieldLink RX0 30 "SmudgedStar" "blamedThings" "[I") (List.mem_of_getElem? (i := 2) rfl)) (fun _ h9 => h9) rfl dX0_votesFor_18 ?_
    refine lv_iload_n hx hb dX0_votesFor_21 rfl (lv_at hl 0 rfl) ?_
    refine ia_ld hx hb hK hP 4 0 rfl rfl (j := i) (by omega) (by decide) dX0_votesFor_22 ?_
    refine lv_iload_n hx hb dX0_votesFor_23 rfl (lv_at hl 3 rfl) ?_
    refine pcS_i (As := [.int (B i), .int (nI t)]) (rest := []) ⟨hx, hb, hml, hown, hts⟩ (g_X_holds l (B i) (nI t)) (va_cwS 2 hts gX0_votesFor_X0_holds rfl rfl rfl hdX0_holds ⟨Nat.le_of_ble_eq_true rfl, Nat.le_of_ble_eq_true rfl⟩) rfl hl.1 (Nat.le_of_ble_eq_true rfl) rfl dX0_votesFor_24 ⟨Nat.le_of_ble_eq_true rfl, Nat.le_of_ble_eq_true rfl⟩ ?_
    refine lv_ifb_eq (tgt := 33) hx hb dX0_votesFor_27 (by decide) (fun c27 => ?_) (fun c27 => ?_)
    · skip
      refine lv_iinc (v := nI (i + 1)) (lv' := [(3, .int (nI (i + 1))), (2, .int (nI (ct (fun a => ho (B a) (nI t)) i))), (0, .ref (q 0)), (1, .int (nI t))]) hx hb dX0_votesFor_33 hl (k := 0) rfl (nI_1 _) (by decide) rfl (fun ls hl => ?_)
      refine lv_goto (tgt := 9) hx hb dX0_votesFor_36 (by decide) ?_
      have e2 : (nI (ct (fun a => ho (B a) (nI t)) i)) = nI (ct (fun a => ho (B a) (nI t)) (i + 1)) := by first | exact ct_t1 (by simp [c14, c27]) | exact ct_t (by simp [c14, c27]) | exact ct_f (by simp [c14, c27]) | exact ct_f0 (by simp [c14, c27])
      have hl := lv_sub (l' := [(3, .int (nI (i + 1))), (2, .int (nI (ct (fun a => ho (B a) (nI t)) i))), (0, .ref (q 0)), (1, .int (nI t))]) hl [0, 1, 2, 3] rfl
      rw [e2] at hl
      exact ih ls hlt trivial hl
    · skip
      refine lv_iinc (v := nI ((ct (fun a => ho (B a) (nI t)) i) + 1)) (lv' := [(2, .int (nI ((ct (fun a => ho (B a) (nI t)) i) + 1))), (3, .int (nI i)), (0, .ref (q 0)), (1, .int (nI t))]) hx hb dX0_votesFor_30 hl (k := 1) rfl (nI_1 _) (by decide) rfl (fun ls hl => ?_)
      refine lv_iinc (v := nI (i + 1)) (lv' := [(3, .int (nI (i + 1))), (2, .int (nI ((ct (fun a => ho (B a) (nI t)) i) + 1))), (0, .ref (q 0)), (1, .int (nI t))]) hx hb dX0_votesFor_33 hl (k := 1) rfl (nI_1 _) (by decide) rfl (fun ls hl => ?_)
      refine lv_goto (tgt := 9) hx hb dX0_votesFor_36 (by decide) ?_
      have e2 : (nI ((ct (fun a => ho (B a) (nI t)) i) + 1)) = nI (ct (fun a => ho (B a) (nI t)) (i + 1)) := by first | exact ct_t1 (by simp [c14, c27]) | exact ct_t (by simp [c14, c27]) | exact ct_f (by simp [c14, c27]) | exact ct_f0 (by simp [c14, c27])
      have hl := lv_sub (l' := [(3, .int (nI (i + 1))), (2, .int (nI ((ct (fun a => ho (B a) (nI t)) i) + 1))), (0, .ref (q 0)), (1, .int (nI t))]) hl [0, 1, 2, 3] rfl
      rw [e2] at hl
      exact ih ls hlt trivial hl
set_option maxHeartbeats 4000000 in
set_option maxRecDepth 100000 in
theorem g_X_smudges (l : Launch) {D : va_G} {cI cZ : ClassId} {q : Nat → Nat} {tc nc ac : Nat} {ch : Int32} {U : Nat → Int32} {Z : Nat → Bool} {B L F : Nat → Int32} {H : Heap} (hP : va_P D vwCl (wX cI cZ q tc nc ac ch U Z B L F) H) (htc : tc ≤ 8) (hnc : nc ≤ 40) (hac : ac ≤ 8) : Met l yX0_smudges wsX0_smudges ({ frames := 0, cells := 0, slots := 0, locals := 0 }) (va_Pc [.ref (q 0)] (rd D vwCl (tyA cI cZ) H)) (vp_Si (fun r => r = nI (ct Z nc))) 0 0 (fun _ => False) := by
  refine Met.ofW (cc := cX0_smudges) (maxL := 3) (ret := (some .int)) (by decide) rfl ?_
  intro p e s m args below meth c s₁ B9 hml hv
  obtain ⟨rfl, hH, hK⟩ := hv
  subst hH
  have hx := B9.exec
  have hb := B9.bytes
  have hr := B9.returns
  have hts := atoms_spec (ws := wsX0_smudges) B9.pre
  have hown : s.vm.findClass RX0 = some m.cls := findClass_of_methodNamed B9.named
  have hlocks := B9.notSynchronized
  have hin : ∀ w ∈ u_ws RX0 TX0 10, w ∈ wsX0_smudges := fun w h => List.mem_cons_of_mem _ (List.mem_append_right _ h)
  have hl := lv_entry ([.ref (q 0)]) (n := 3) (Nat.le_of_ble_eq_true rfl)
  rw [lg_entry_eq]
  generalize (lg_sl ([.ref (q 0)]) ++ List.replicate (3 - (lg_sl ([.ref (q 0)])).length) Slot.unset).toArray = ls at hl ⊢
  have hl : lv_has ls 3 [(0, .ref (q 0))] := hl
  refine lv_iconst (v := 0) hx hb dX0_smudges_0 (by decide) ?_
  refine lv_istore_n (lv' := [(1, .int 0), (0, .ref (q 0))]) hx hb dX0_smudges_1 rfl hl (by decide) rfl (fun ls hl => ?_)
  refine lv_iconst (v := 0) hx hb dX0_smudges_2 (by decide) ?_
  refine lv_istore_n (lv' := [(2, .int 0), (1, .int 0), (0, .ref (q 0))]) hx hb dX0_smudges_3 rfl hl (by decide) rfl (fun ls hl => ?_)
  refine w_loop (N := nc) (T := fun i => [(2, .int (nI i)), (1, .int (nI (ct Z i))), (0, .ref (q 0))]) (I := fun _ => True) 0 (Nat.zero_le _) trivial (lv_sub hl [0, 1, 2] rfl) (fun i ls hi hI hl ih => ?_)
  have hl : lv_has ls 3 [(2, .int (nI i)), (1, .int (nI (ct Z i))), (0, .ref (q 0))] := hl
  refine lv_iload_n hx hb dX0_smudges_4 rfl (lv_at hl 0 rfl) ?_
  refine lv_aload_n hx hb dX0_smudges_5 rfl (lv_at hl 2 rfl) ?_
  refine va_get (D := D) (ci := 0) (v := .int (nI nc)) (C := RX0) (T := TX0) (N := 10) hx hb hts hin hown hK hP 0 rfl rfl 1 (by decide) (hts (.fieldLink RX0 13 "SmudgedStar" "nightCount" "I") (List.mem_of_getElem? (i := 1) rfl)) (fun _ h9 => h9) rfl dX0_smudges_6 ?_
  refine lv_icmp_ge (tgt := 30) hx hb dX0_smudges_9 (by decide) (fun c9 => ?_) (fun c9 => ?_)
  · skip
    have hie : i = nc := gd_ge_t (by omega) hi c9
    rw [hie] at hl
    refine lv_iload_n hx hb dX0_smudges_30 rfl (lv_at hl 1 rfl) ?_
    exact W.iret (v := nI (ct Z nc)) hx hb hr (fun t9 ht9 hW9 => ⟨nI (ct Z nc), rfl, rfl, ht9⟩) (fun _ h => absurd h List.not_mem_nil) dX0_smudges_31
  · skip
    have hlt : i < nc := gd_ge_f hi c9
    refine lv_aload_n hx hb dX0_smudges_12 rfl (lv_at hl 2 rfl) ?_
    refine va_get (D := D) (ci := 0) (v := .ref (q 2)) (C := RX0) (T := TX0) (N := 10) hx hb hts hin hown hK hP 0 rfl rfl 3 (by decide) (hts (.fieldLink RX0 20 "SmudgedStar" "smudgeSeen" "[Z") (List.mem_of_getElem? (i := 2) rfl)) (fun _ h9 => h9) rfl dX0_smudges_13 ?_
    refine lv_iload_n hx hb dX0_smudges_16 rfl (lv_at hl 0 rfl) ?_
    refine za_ld (f := Z) hx hb hK hP 2 1 rfl rfl (j := i) (by omega) (by decide) dX0_smudges_17 ?_
    refine lv_ifb_eq (tgt := 24) hx hb dX0_smudges_18 (by decide) (fun c18 => ?_) (fun c18 => ?_)
    · skip
      refine lv_iinc (v := nI (i + 1)) (lv' := [(2, .int (nI (i + 1))), (1, .int (nI (ct Z i))), (0, .ref (q 0))]) hx hb dX0_smudges_24 hl (k := 0) rfl (nI_1 _) (by decide) rfl (fun ls hl => ?_)
      refine lv_goto (tgt := 4) hx hb dX0_smudges_27 (by decide) ?_
      have e1 : (nI (ct Z i)) = nI (ct Z (i + 1)) := by first | exact ct_t1 (by simp [c9, c18]) | exact ct_t (by simp [c9, c18]) | exact ct_f (by simp [c9, c18]) | exact ct_f0 (by simp [c9, c18])
      have hl := lv_sub (l' := [(2, .int (nI (i + 1))), (1, .int (nI (ct Z i))), (0, .ref (q 0))]) hl [0, 1, 2] rfl
      rw [e1] at hl
      exact ih ls hlt trivial hl
    · skip
      refine lv_iinc (v := nI ((ct Z i) + 1)) (lv' := [(1, .int (nI ((ct Z i) + 1))), (2, .int (nI i)), (0, .ref (q 0))]) hx hb dX0_smudges_21 hl (k := 1) rfl (nI_1 _) (by decide) rfl (fun ls hl => ?_)
      refine lv_iinc (v := nI (i + 1)) (lv' := [(2, .int (nI (i + 1))), (1, .int (nI ((ct Z i) + 1))), (0, .ref (q 0))]) hx hb dX0_smudges_24 hl (k := 1) rfl (nI_1 _) (by decide) rfl (fun ls hl => ?_)
      refine lv_goto (tgt := 4) hx hb dX0_smudges_27 (by decide) ?_
      have e1 : (nI ((ct Z i) + 1)) = nI (ct Z (i + 1)) := by first | exact ct_t1 (by simp [c9, c18]) | exact ct_t (by simp [c9, c18]) | exact ct_f (by simp [c9, c18]) | exact ct_f0 (by simp [c9, c18])
      have hl := lv_sub (l' := [(2, .int (nI (i + 1))), (1, .int (nI ((ct Z i) + 1))), (0, .ref (q 0))]) hl [0, 1, 2] rfl
      rw [e1] at hl
      exact ih ls hlt trivial hl
set_option maxHeartbeats 4000000 in
set_option maxRecDepth 100000 in
theorem g_X_clearedThings (l : Launch) {D : va_G} {cI cZ : ClassId} {q : Nat → Nat} {tc nc ac : Nat} {ch : Int32} {U : Nat → Int32} {Z : Nat → Bool} {B L F : Nat → Int32} {H : Heap} (hP : va_P D vwCl (wX cI cZ q tc nc ac ch U Z B L F) H) (htc : tc ≤ 8) (hnc : nc ≤ 40) (hac : ac ≤ 8) : Met l yX0_clearedThings wsX0_clearedThings ({ frames := 0, cells := 0, slots := 0, locals := 0 }) (va_Pc [.ref (q 0)] (rd D vwCl (tyA cI cZ) H)) (vp_Si (fun r => r = cld U Z nc)) 0 0 (fun _ => False) := by
  refine Met.ofW (cc := cX0_clearedThings) (maxL := 3) (ret := (some .int)) (by decide) rfl ?_
  intro p e s m args below meth c s₁ B9 hml hv
  obtain ⟨rfl, hH, hK⟩ := hv
  subst hH
  have hx := B9.exec
  have hb := B9.bytes
  have hr := B9.returns
  have hts := atoms_spec (ws := wsX0_clearedThings) B9.pre
  have hown : s.vm.findClass RX0 = some m.cls := findClass_of_methodNamed B9.named
  have hlocks := B9.notSynchronized
  have hin : ∀ w ∈ u_ws RX0 TX0 10, w ∈ wsX0_clearedThings := fun w h => List.mem_cons_of_mem _ (List.mem_append_right _ h)
  have hl := lv_entry ([.ref (q 0)]) (n := 3) (Nat.le_of_ble_eq_true rfl)
  rw [lg_entry_eq]
  generalize (lg_sl ([.ref (q 0)]) ++ List.replicate (3 - (lg_sl ([.ref (q 0)])).length) Slot.unset).toArray = ls at hl ⊢
  have hl : lv_has ls 3 [(0, .ref (q 0))] := hl
  refine lv_iconst (v := 0) hx hb dX0_clearedThings_0 (by decide) ?_
  refine lv_istore_n (lv' := [(1, .int 0), (0, .ref (q 0))]) hx hb dX0_clearedThings_1 rfl hl (by decide) rfl (fun ls hl => ?_)
  refine lv_iconst (v := 0) hx hb dX0_clearedThings_2 (by decide) ?_
  refine lv_istore_n (lv' := [(2, .int 0), (1, .int 0), (0, .ref (q 0))]) hx hb dX0_clearedThings_3 rfl hl (by decide) rfl (fun ls hl => ?_)
  refine w_loop (N := nc) (T := fun i => [(2, .int (nI i)), (1, .int (orf (fun j => !(Z j)) U i)), (0, .ref (q 0))]) (I := fun _ => True) 0 (Nat.zero_le _) trivial (lv_sub hl [0, 1, 2] rfl) (fun i ls hi hI hl ih => ?_)
  have hl : lv_has ls 3 [(2, .int (nI i)), (1, .int (orf (fun j => !(Z j)) U i)), (0, .ref (q 0))] := hl
  refine lv_iload_n hx hb dX0_clearedThings_4 rfl (lv_at hl 0 rfl) ?_
  refine lv_aload_n hx hb dX0_clearedThings_5 rfl (lv_at hl 2 rfl) ?_
  refine va_get (D := D) (ci := 0) (v := .int (nI nc)) (C := RX0) (T := TX0) (N := 10) hx hb hts hin hown hK hP 0 rfl rfl 1 (by decide) (hts (.fieldLink RX0 13 "SmudgedStar" "nightCount" "I") (List.mem_of_getElem? (i := 1) rfl)) (fun _ h9 => h9) rfl dX0_clearedThings_6 ?_
  refine lv_icmp_ge (tgt := 36) hx hb dX0_clearedThings_9 (by decide) (fun c9 => ?_) (fun c9 => ?_)
  · skip
    have hie : i = nc := gd_ge_t (by omega) hi c9
    rw [hie] at hl
    refine lv_iload_n hx hb dX0_clearedThings_36 rfl (lv_at hl 1 rfl) ?_
    exact W.iret (v := orf (fun j => !(Z j)) U nc) hx hb hr (fun t9 ht9 hW9 => ⟨orf (fun j => !(Z j)) U nc, rfl, rfl, ht9⟩) (fun _ h => absurd h List.not_mem_nil) dX0_clearedThings_37
  · skip
    have hlt : i < nc := gd_ge_f hi c9
    refine lv_aload_n hx hb dX0_clearedThings_12 rfl (lv_at hl 2 rfl) ?_
    refine va_get (D := D) (ci := 0) (v := .ref (q 2)) (C := RX0) (T := TX0) (N := 10) hx hb hts hin hown hK hP 0 rfl rfl 3 (by decide) (hts (.fieldLink RX0 20 "SmudgedStar" "smudgeSeen" "[Z") (List.mem_of_getElem? (i := 2) rfl)) (fun _ h9 => h9) rfl dX0_clearedThings_13 ?_
    refine lv_iload_n hx hb dX0_clearedThings_16 rfl (lv_at hl 0 rfl) ?_
    refine za_ld (f := Z) hx hb hK hP 2 1 rfl rfl (j := i) (by omega) (by decide) dX0_clearedThings_17 ?_
    refine lv_ifb_ne (tgt := 30) hx hb dX0_clearedThings_18 (by decide) (fun c18 => ?_) (fun c18 => ?_)
    · skip
      refine lv_iinc (v := nI (i + 1)) (lv' := [(2, .int (nI (i + 1))), (1, .int (orf (fun j => !(Z j)) U i)), (0, .ref (q 0))]) hx hb dX0_clearedThings_30 hl (k := 0) rfl (nI_1 _) (by decide) rfl (fun ls hl => ?_)
      refine lv_goto (tgt := 4) hx hb dX0_clearedThings_33 (by decide) ?_
      have e1 : (orf (fun j => !(Z j)) U i) = orf (fun j => !(Z j)) U (i + 1) := by first | exact orf_f (by simp [c9, c18]) | exact orf_t (by simp [c9, c18])
      have hl := lv_sub (l' := [(2, .int (nI (i + 1))), (1, .int (orf (fun j => !(Z j)) U i)), (0, .ref (q 0))]) hl [0, 1, 2] rfl
      rw [e1] at hl
      exact ih ls hlt trivial hl
    · skip
      refine lv_iload_n hx hb dX0_clearedThings_21 rfl (lv_at hl 1 rfl) ?_
      refine lv_aload_n hx hb dX0_clearedThings_22 rfl (lv_at hl 2 rfl) ?_
      refine va_get (D := D) (ci := 0) (v := .ref (q 1)) (C := RX0) (T := TX0) (N := 10) hx hb hts hin hown hK hP 0 rfl rfl 2 (by decide) (hts (.fieldLink RX0 16 "SmudgedStar" "usedThings" "[I") (List.mem_of_getElem? (i := 3) rfl)) (fun _ h9 => h9) rfl dX0_clearedThings_23 ?_
      refine lv_iload_n hx hb dX0_clearedThings_26 rfl (lv_at hl 0 rfl) ?_
      refine ia_ld hx hb hK hP 1 0 rfl rfl (j := i) (by omega) (by decide) dX0_clearedThings_27 ?_
      refine lv_ior hx hb dX0_clearedThings_28 ?_
      refine lv_istore_n (lv' := [(1, .int ((orf (fun j => !(Z j)) U i) ||| (U i))), (2, .int (nI i)), (0, .ref (q 0))]) hx hb dX0_clearedThings_29 rfl hl (by decide) rfl (fun ls hl => ?_)
      refine lv_iinc (v := nI (i + 1)) (lv' := [(2, .int (nI (i + 1))), (1, .int ((orf (fun j => !(Z j)) U i) ||| (U i))), (0, .ref (q 0))]) hx hb dX0_clearedThings_30 hl (k := 1) rfl (nI_1 _) (by decide) rfl (fun ls hl => ?_)
      refine lv_goto (tgt := 4) hx hb dX0_clearedThings_33 (by decide) ?_
      have e1 : ((orf (fun j => !(Z j)) U i) ||| (U i)) = orf (fun j => !(Z j)) U (i + 1) := by first | exact orf_f (by simp [c9, c18]) | exact orf_t (by simp [c9, c18])
      have hl := lv_sub (l' := [(2, .int (nI (i + 1))), (1, .int ((orf (fun j => !(Z j)) U i) ||| (U i))), (0, .ref (q 0))]) hl [0, 1, 2] rfl
      rw [e1] at hl
      exact ih ls hlt trivial hl
set_option maxHeartbeats 4000000 in
set_option maxRecDepth 100000 in
theorem g_X_isCleared (l : Launch) {D : va_G} {cI cZ : ClassId} {q : Nat → Nat} {tc nc ac : Nat} {ch : Int32} {U : Nat → Int32} {Z : Nat → Bool} {B L F : Nat → Int32} {H : Heap} (hP : va_P D vwCl (wX cI cZ q tc nc ac ch U Z B L F) H) (htc : tc ≤ 8) (hnc : nc ≤ 40) (hac : ac ≤ 8) {t : Nat} (ht : t < tc) : Met l yX0_isCleared wsX0_isCleared ({ frames := 2, cells := 0, slots := 0, locals := 41 }) (va_Pc [.ref (q 0), .int (nI t)] (rd D vwCl (tyA cI cZ) H)) (vp_Si (fun r => r = bI (ho (cld U Z nc) (nI t)))) 0 0 (fun _ => False) := by
  refine Met.ofW (cc := cX0_isCleared) (maxL := 2) (ret := (some .boolean)) (by decide) rfl ?_
  intro p e s m args below meth c s₁ B9 hml hv
  obtain ⟨rfl, hH, hK⟩ := hv
  subst hH
  have hx := B9.exec
  have hb := B9.bytes
  have hr := B9.returns
  have hts := atoms_spec (ws := wsX0_isCleared) B9.pre
  have hown : s.vm.findClass RX0 = some m.cls := findClass_of_methodNamed B9.named
  have hlocks := B9.notSynchronized
  have hl := lv_entry ([.ref (q 0), .int (nI t)]) (n := 2) (Nat.le_of_ble_eq_true rfl)
  rw [lg_entry_eq]
  generalize (lg_sl ([.ref (q 0), .int (nI t)]) ++ List.replicate (2 - (lg_sl ([.ref (q 0), .int (nI t)])).length) Slot.unset).toArray = ls at hl ⊢
  have hl : lv_has ls 2 [(0, .ref (q 0)), (1, .int (nI t))] := hl
  refine lv_aload_n hx hb dX0_isCleared_0 rfl (lv_at hl 0 rfl) ?_
  refine lv_iload_n hx hb dX0_isCleared_1 rfl (lv_at hl 1 rfl) ?_
  refine pcV_v (As := [.int (nI t)]) (rest := []) ⟨hx, hb, hml, hown, hts⟩ (g_X_requireThing l hP htc hnc hac ht) (cwV 1 hts gX0_isCleared_X0_requireThing rfl rfl rfl hdX0_requireThing ⟨Nat.le_of_ble_eq_true rfl, Nat.le_of_ble_eq_true rfl⟩) (va_recv hK hP (ci := 0) (q0 := 0) rfl rfl) hK rfl hl.1 (Nat.le_of_ble_eq_true rfl) rfl dX0_isCleared_2 ⟨Nat.le_of_ble_eq_true rfl, Nat.le_of_ble_eq_true rfl⟩ ?_
  refine lv_aload_n hx hb dX0_isCleared_5 rfl (lv_at hl 0 rfl) ?_
  refine pcV_i (As := []) (rest := []) ⟨hx, hb, hml, hown, hts⟩ (g_X_clearedThings l hP htc hnc hac) (cwV 0 hts gX0_isCleared_X0_clearedThings rfl rfl rfl hdX0_clearedThings ⟨Nat.le_of_ble_eq_true rfl, Nat.le_of_ble_eq_true rfl⟩) (va_recv hK hP (ci := 0) (q0 := 0) rfl rfl) hK rfl hl.1 (Nat.le_of_ble_eq_true rfl) rfl dX0_isCleared_6 ⟨Nat.le_of_ble_eq_true rfl, Nat.le_of_ble_eq_true rfl⟩ ?_
  refine lv_iload_n hx hb dX0_isCleared_9 rfl (lv_at hl 1 rfl) ?_
  refine pcS_i (As := [.int (cld U Z nc), .int (nI t)]) (rest := []) ⟨hx, hb, hml, hown, hts⟩ (g_X_holds l (cld U Z nc) (nI t)) (va_cwS 2 hts gX0_isCleared_X0_holds rfl rfl rfl hdX0_holds ⟨Nat.le_of_ble_eq_true rfl, Nat.le_of_ble_eq_true rfl⟩) rfl hl.1 (Nat.le_of_ble_eq_true rfl) rfl dX0_isCleared_10 ⟨Nat.le_of_ble_eq_true rfl, Nat.le_of_ble_eq_true rfl⟩ ?_
  exact W.zret (v := bI (ho (cld U Z nc) (nI t))) (ty := .boolean) hx hb hr (bI_nar _) (fun t9 ht9 hW9 => ⟨bI (ho (cld U Z nc) (nI t)), rfl, rfl, ht9⟩) (fun _ h => absurd h List.not_mem_nil) dX0_isCleared_13
set_option maxHeartbeats 4000000 in
set_option maxRecDepth 100000 in
theorem g_X_isProved (l : Launch) {D : va_G} {cI cZ : ClassId} {q : Nat → Nat} {tc nc ac : Nat} {ch : Int32} {U : Nat → Int32} {Z : Nat → Bool} {B L F : Nat → Int32} {H : Heap} (hP : va_P D vwCl (wX cI cZ q tc nc ac ch U Z B L F) H) (htc : tc ≤ 8) (hnc : nc ≤ 40) (hac : ac ≤ 8) {t : Nat} (ht : t < tc) : Met l yX0_isProved wsX0_isProved ({ frames := 2, cells := 0, slots := 0, locals := 41 }) (va_Pc [.ref (q 0), .int (nI t)] (rd D vwCl (tyA cI cZ) H)) (vp_Si (fun r => r = bI (anyb (fun j => Z j && ho (U j) (nI t) && decide (U j &&& ((cld U Z nc ||| ((1 : Int32) <<< (nI t &&& 31))) ^^^ (-1)) = 0)) nc))) 0 0 (fun _ => False) := by
  refine Met.ofW (cc := cX0_isProved) (maxL := 5) (ret := (some .boolean)) (by decide) rfl ?_
  intro p e s m args below meth c s₁ B9 hml hv
  obtain ⟨rfl, hH, hK⟩ := hv
  subst hH
  have hx := B9.exec
  have hb := B9.bytes
  have hr := B9.returns
  have hts := atoms_spec (ws := wsX0_isProved) B9.pre
  have hown : s.vm.findClass RX0 = some m.cls := findClass_of_methodNamed B9.named
  have hlocks := B9.notSynchronized
  have hin : ∀ w ∈ u_ws RX0 TX0 10, w ∈ wsX0_isProved := fun w h => List.mem_cons_of_mem _ (List.mem_append_left _ (List.mem_append_right _ h))
  have hl := lv_entry ([.ref (q 0), .int (nI t)]) (n := 5) (Nat.le_of_ble_eq_true rfl)
  rw [lg_entry_eq]
  generalize (lg_sl ([.ref (q 0), .int (nI t)]) ++ List.replicate (5 - (lg_sl ([.ref (q 0), .int (nI t)])).length) Slot.unset).toArray = ls at hl ⊢
  have hl : lv_has ls 5 [(0, .ref (q 0)), (1, .int (nI t))] := hl
  refine lv_aload_n hx hb dX0_isProved_0 rfl (lv_at hl 0 rfl) ?_
  refine lv_iload_n hx hb dX0_isProved_1 rfl (lv_at hl 1 rfl) ?_
  refine pcV_v (As := [.int (nI t)]) (rest := []) ⟨hx, hb, hml, hown, hts⟩ (g_X_requireThing l hP htc hnc hac ht) (cwV 1 hts gX0_isProved_X0_requireThing rfl rfl rfl hdX0_requireThing ⟨Nat.le_of_ble_eq_true rfl, Nat.le_of_ble_eq_true rfl⟩) (va_recv hK hP (ci := 0) (q0 := 0) rfl rfl) hK rfl hl.1 (Nat.le_of_ble_eq_true rfl) rfl dX0_isProved_2 ⟨Nat.le_of_ble_eq_true rfl, Nat.le_of_ble_eq_true rfl⟩ ?_
  refine lv_aload_n hx hb dX0_isProved_5 rfl (lv_at hl 0 rfl) ?_
  refine pcV_i (As := []) (rest := []) ⟨hx, hb, hml, hown, hts⟩ (g_X_clearedThings l hP htc hnc hac) (cwV 0 hts gX0_isProved_X0_clearedThings rfl rfl rfl hdX0_clearedThings ⟨Nat.le_of_ble_eq_true rfl, Nat.le_of_ble_eq_true rfl⟩) (va_recv hK hP (ci := 0) (q0 := 0) rfl rfl) hK rfl hl.1 (Nat.le_of_ble_eq_true rfl) rfl dX0_isProved_6 ⟨Nat.le_of_ble_eq_true rfl, Nat.le_of_ble_eq_true rfl⟩ ?_
  refine lv_iload_n hx hb dX0_isProved_9 rfl (lv_at hl 1 rfl) ?_
  refine pcS_i (As := [.int (nI t)]) (rest := [.int (cld U Z nc)]) ⟨hx, hb, hml, hown, hts⟩ (g_X_setOf l (nI t)) (va_cwS 1 hts gX0_isProved_X0_setOf rfl rfl rfl hdX0_setOf ⟨Nat.le_of_ble_eq_true rfl, Nat.le_of_ble_eq_true rfl⟩) rfl hl.1 (Nat.le_of_ble_eq_true rfl) rfl dX0_isProved_10 ⟨Nat.le_of_ble_eq_true rfl, Nat.le_of_ble_eq_true rfl⟩ ?_
  refine lv_ior hx hb dX0_isProved_13 ?_
  refine lv_istore_n (lv' := [(2, .int ((cld U Z nc) ||| ((1 : Int32) <<< ((nI t) &&& 31)))), (0, .ref (q 0)), (1, .int (nI t))]) hx hb dX0_isProved_14 rfl hl (by decide) rfl (fun ls hl => ?_)
  refine lv_iconst (v := 0) hx hb dX0_isProved_15 (by decide) ?_
  refine lv_istore_n (lv' := [(3, .int 0), (2, .int ((cld U Z nc) ||| ((1 : Int32) <<< ((nI t) &&& 31)))), (0, .ref (q 0)), (1, .int (nI t))]) hx hb dX0_isProved_16 rfl hl (by decide) rfl (fun ls hl => ?_)
  refine w_loop (N := nc) (T := fun i => [(3, .int (nI i)), (2, .int ((cld U Z nc) ||| ((1 : Int32) <<< ((nI t) &&& 31)))), (0, .ref (q 0)), (1, .int (nI t))]) (I := fun i => anyb (fun j => Z j && ho (U j) (nI t) && decide (U j &&& ((cld U Z nc ||| ((1 : Int32) <<< (nI t &&& 31))) ^^^ (-1)) = 0)) i = false) 0 (Nat.zero_le _) rfl (lv_sub hl [0, 1, 2, 3] rfl) (fun i ls hi hI hl ih => ?_)
  have hI : anyb (fun j => Z j && ho (U j) (nI t) && decide (U j &&& ((cld U Z nc ||| ((1 : Int32) <<< (nI t &&& 31))) ^^^ (-1)) = 0)) i = false := hI
  have hl : lv_has ls 5 [(3, .int (nI i)), (2, .int ((cld U Z nc) ||| ((1 : Int32) <<< ((nI t) &&& 31)))), (0, .ref (q 0)), (1, .int (nI t))] := hl
  refine lv_iload_n hx hb dX0_isProved_17 rfl (lv_at hl 0 rfl) ?_
  refine lv_aload_n hx hb dX0_isProved_18 rfl (lv_at hl 2 rfl) ?_
  refine va_get (D := D) (ci := 0) (v := .int (nI nc)) (C := RX0) (T := TX0) (N := 10) hx hb hts hin hown hK hP 0 rfl rfl 1 (by decide) (hts (.fieldLink RX0 13 "SmudgedStar" "nightCount" "I") (List.mem_of_getElem? (i := 1) rfl)) (fun _ h9 => h9) rfl dX0_isProved_19 ?_
  refine lv_icmp_ge (tgt := 68) hx hb dX0_isProved_22 (by decide) (fun c22 => ?_) (fun c22 => ?_)
  · skip
    have hie : i = nc := gd_ge_t (by omega) hi c22
    rw [hie] at hl
    rw [hie] at hI
    refine lv_iconst (v := 0) hx hb dX0_isProved_68 (by decide) ?_
    exact W.zret (v := 0) (ty := .boolean) hx hb hr (rfl) (fun t9 ht9 hW9 => ⟨0, rfl, (by rw [hI]; rfl), ht9⟩) (fun _ h => absurd h List.not_mem_nil) dX0_isProved_69
  · skip
    have hlt : i < nc := gd_ge_f hi c22
    refine lv_aload_n hx hb dX0_isProved_25 rfl (lv_at hl 2 rfl) ?_
    refine va_get (D := D) (ci := 0) (v := .ref (q 1)) (C := RX0) (T := TX0) (N := 10) hx hb hts hin hown hK hP 0 rfl rfl 2 (by decide) (hts (.fieldLink RX0 16 "SmudgedStar" "usedThings" "[I") (List.mem_of_getElem? (i := 2) rfl)) (fun _ h9 => h9) rfl dX0_isProved_26 ?_
    refine lv_iload_n hx hb dX0_isProved_29 rfl (lv_at hl 0 rfl) ?_
    refine ia_ld hx hb hK hP 1 0 rfl rfl (j := i) (by omega) (by decide) dX0_isProved_30 ?_
    refine lv_istore (lv' := [(4, .int (U i)), (3, .int (nI i)), (2, .int ((cld U Z nc) ||| ((1 : Int32) <<< ((nI t) &&& 31)))), (0, .ref (q 0)), (1, .int (nI t))]) hx hb dX0_isProved_31 hl (by decide) rfl (fun ls hl => ?_)
    refine lv_aload_n hx hb dX0_isProved_33 rfl (lv_at hl 3 rfl) ?_
    refine va_get (D := D) (ci := 0) (v := .ref (q 2)) (C := RX0) (T := TX0) (N := 10) hx hb hts hin hown hK hP 0 rfl rfl 3 (by decide) (hts (.fieldLink RX0 20 "SmudgedStar" "smudgeSeen" "[Z") (List.mem_of_getElem? (i := 3) rfl)) (fun _ h9 => h9) rfl dX0_isProved_34 ?_
    refine lv_iload_n hx hb dX0_isProved_37 rfl (lv_at hl 1 rfl) ?_
    refine za_ld (f := Z) hx hb hK hP 2 1 rfl rfl (j := i) (by omega) (by decide) dX0_isProved_38 ?_
    refine lv_ifb_eq (tgt := 62) hx hb dX0_isProved_39 (by decide) (fun c39 => ?_) (fun c39 => ?_)
    · skip
      refine lv_iinc (v := nI (i + 1)) (lv' := [(3, .int (nI (i + 1))), (4, .int (U i)), (2, .int ((cld U Z nc) ||| ((1 : Int32) <<< ((nI t) &&& 31)))), (0, .ref (q 0)), (1, .int (nI t))]) hx hb dX0_isProved_62 hl (k := 1) rfl (nI_1 _) (by decide) rfl (fun ls hl => ?_)
      refine lv_goto (tgt := 17) hx hb dX0_isProved_65 (by decide) ?_
      have hl := lv_sub (l' := [(3, .int (nI (i + 1))), (2, .int ((cld U Z nc) ||| ((1 : Int32) <<< ((nI t) &&& 31)))), (0, .ref (q 0)), (1, .int (nI t))]) hl [0, 2, 3, 4] rfl
      exact ih ls hlt (anyb_s hI (by first | (simp only [c39, Bool.false_and]; done) | (simp only [c39, c48, Bool.true_and, Bool.false_and]; done) | (simp only [c39, c48, decide_eq_false c57, Bool.true_and]; done))) hl
    · skip
      refine lv_iload hx hb dX0_isProved_42 (lv_at hl 0 rfl) ?_
      refine lv_iload_n hx hb dX0_isProved_44 rfl (lv_at hl 4 rfl) ?_
      refine pcS_i (As := [.int (U i), .int (nI t)]) (rest := []) ⟨hx, hb, hml, hown, hts⟩ (g_X_holds l (U i) (nI t)) (va_cwS 2 hts gX0_isProved_X0_holds rfl rfl rfl hdX0_holds ⟨Nat.le_of_ble_eq_true rfl, Nat.le_of_ble_eq_true rfl⟩) rfl hl.1 (Nat.le_of_ble_eq_true rfl) rfl dX0_isProved_45 ⟨Nat.le_of_ble_eq_true rfl, Nat.le_of_ble_eq_true rfl⟩ ?_
      refine lv_ifb_eq (tgt := 62) hx hb dX0_isProved_48 (by decide) (fun c48 => ?_) (fun c48 => ?_)
      · skip
        refine lv_iinc (v := nI (i + 1)) (lv' := [(3, .int (nI (i + 1))), (4, .int (U i)), (2, .int ((cld U Z nc) ||| ((1 : Int32) <<< ((nI t) &&& 31)))), (0, .ref (q 0)), (1, .int (nI t))]) hx hb dX0_isProved_62 hl (k := 1) rfl (nI_1 _) (by decide) rfl (fun ls hl => ?_)
        refine lv_goto (tgt := 17) hx hb dX0_isProved_65 (by decide) ?_
        have hl := lv_sub (l' := [(3, .int (nI (i + 1))), (2, .int ((cld U Z nc) ||| ((1 : Int32) <<< ((nI t) &&& 31)))), (0, .ref (q 0)), (1, .int (nI t))]) hl [0, 2, 3, 4] rfl
        exact ih ls hlt (anyb_s hI (by first | (simp only [c39, Bool.false_and]; done) | (simp only [c39, c48, Bool.true_and, Bool.false_and]; done) | (simp only [c39, c48, decide_eq_false c57, Bool.true_and]; done))) hl
      · skip
        refine lv_iload hx hb dX0_isProved_51 (lv_at hl 0 rfl) ?_
        refine lv_iload_n hx hb dX0_isProved_53 rfl (lv_at hl 2 rfl) ?_
        refine lv_iconst (v := (-1)) hx hb dX0_isProved_54 (by decide) ?_
        refine lv_ixor hx hb dX0_isProved_55 ?_
        refine lv_iand hx hb dX0_isProved_56 ?_
        refine lv_if_ne (tgt := 62) hx hb dX0_isProved_57 (by decide) (fun c57 => ?_) (fun c57 => ?_)
        · skip
          refine lv_iinc (v := nI (i + 1)) (lv' := [(3, .int (nI (i + 1))), (4, .int (U i)), (2, .int ((cld U Z nc) ||| ((1 : Int32) <<< ((nI t) &&& 31)))), (0, .ref (q 0)), (1, .int (nI t))]) hx hb dX0_isProved_62 hl (k := 1) rfl (nI_1 _) (by decide) rfl (fun ls hl => ?_)
          refine lv_goto (tgt := 17) hx hb dX0_isProved_65 (by decide) ?_
          have hl := lv_sub (l' := [(3, .int (nI (i + 1))), (2, .int ((cld U Z nc) ||| ((1 : Int32) <<< ((nI t) &&& 31)))), (0, .ref (q 0)), (1, .int (nI t))]) hl [0, 2, 3, 4] rfl
          exact ih ls hlt (anyb_s hI (by first | (simp only [c39, Bool.false_and]; done) | (simp only [c39, c48, Bool.true_and, Bool.false_and]; done) | (simp only [c39, c48, decide_eq_false c57, Bool.true_and]; done))) hl
        · skip
          refine lv_iconst (v := 1) hx hb dX0_isProved_60 (by decide) ?_
          exact W.zret (v := 1) (ty := .boolean) hx hb hr (rfl) (fun t9 ht9 hW9 => ⟨1, rfl, (by rw [anyb_of (p := (fun j => Z j && ho (U j) (nI t) && decide (U j &&& ((cld U Z nc ||| ((1 : Int32) <<< (nI t &&& 31))) ^^^ (-1)) = 0))) (i := i) (by simp only [c39, c48, decide_eq_true c57, Bool.true_and]) nc hlt]; rfl), ht9⟩) (fun _ h => absurd h List.not_mem_nil) dX0_isProved_61
set_option maxHeartbeats 4000000 in
set_option maxRecDepth 100000 in
theorem g_X_things (l : Launch) {D : va_G} {cI cZ : ClassId} {q : Nat → Nat} {tc nc ac : Nat} {ch : Int32} {U : Nat → Int32} {Z : Nat → Bool} {B L F : Nat → Int32} {H : Heap} (hP : va_P D vwCl (wX cI cZ q tc nc ac ch U Z B L F) H) (htc : tc ≤ 8) (hnc : nc ≤ 40) (hac : ac ≤ 8) : Met l yX0_things wsX0_things ({ frames := 0, cells := 0, slots := 0, locals := 0 }) (va_Pc [.ref (q 0)] (rd D vwCl (tyA cI cZ) H)) (vp_Si (fun r => r = nI tc)) 0 0 (fun _ => False) := by
  refine Met.ofW (cc := cX0_things) (maxL := 1) (ret := (some .int)) (by decide) rfl ?_
  intro p e s m args below meth c s₁ B9 hml hv
  obtain ⟨rfl, hH, hK⟩ := hv
  subst hH
  have hx := B9.exec
  have hb := B9.bytes
  have hr := B9.returns
  have hts := atoms_spec (ws := wsX0_things) B9.pre
  have hown : s.vm.findClass RX0 = some m.cls := findClass_of_methodNamed B9.named
  have hlocks := B9.notSynchronized
  have hin : ∀ w ∈ u_ws RX0 TX0 10, w ∈ wsX0_things := fun w h => List.mem_cons_of_mem _ (List.mem_append_right _ h)
  have hl := lv_entry ([.ref (q 0)]) (n := 1) (Nat.le_of_ble_eq_true rfl)
  rw [lg_entry_eq]
  generalize (lg_sl ([.ref (q 0)]) ++ List.replicate (1 - (lg_sl ([.ref (q 0)])).length) Slot.unset).toArray = ls at hl ⊢
  have hl : lv_has ls 1 [(0, .ref (q 0))] := hl
  refine lv_aload_n hx hb dX0_things_0 rfl (lv_at hl 0 rfl) ?_
  refine va_get (D := D) (ci := 0) (v := .int (nI tc)) (C := RX0) (T := TX0) (N := 10) hx hb hts hin hown hK hP 0 rfl rfl 0 (by decide) (hts (.fieldLink RX0 9 "SmudgedStar" "thingCount" "I") (List.mem_of_getElem? (i := 1) rfl)) (fun _ h9 => h9) rfl dX0_things_1 ?_
  exact W.iret (v := nI tc) hx hb hr (fun t9 ht9 hW9 => ⟨nI tc, rfl, rfl, ht9⟩) (fun _ h => absurd h List.not_mem_nil) dX0_things_4
set_option maxHeartbeats 4000000 in
set_option maxRecDepth 100000 in
theorem g_X_nights (l : Launch) {D : va_G} {cI cZ : ClassId} {q : Nat → Nat} {tc nc ac : Nat} {ch : Int32} {U : Nat → Int32} {Z : Nat → Bool} {B L F : Nat → Int32} {H : Heap} (hP : va_P D vwCl (wX cI cZ q tc nc ac ch U Z B L F) H) (htc : tc ≤ 8) (hnc : nc ≤ 40) (hac : ac ≤ 8) : Met l yX0_nights wsX0_nights ({ frames := 0, cells := 0, slots := 0, locals := 0 }) (va_Pc [.ref (q 0)] (rd D vwCl (tyA cI cZ) H)) (vp_Si (fun r => r = nI nc)) 0 0 (fun _ => False) := by
  refine Met.ofW (cc := cX0_nights) (maxL := 1) (ret := (some .int)) (by decide) rfl ?_
  intro p e s m args below meth c s₁ B9 hml hv
  obtain ⟨rfl, hH, hK⟩ := hv
  subst hH
  have hx := B9.exec
  have hb := B9.bytes
  have hr := B9.returns
  have hts := atoms_spec (ws := wsX0_nights) B9.pre
  have hown : s.vm.findClass RX0 = some m.cls := findClass_of_methodNamed B9.named
  have hlocks := B9.notSynchronized
  have hin : ∀ w ∈ u_ws RX0 TX0 10, w ∈ wsX0_nights := fun w h => List.mem_cons_of_mem _ (List.mem_append_right _ h)
  have hl := lv_entry ([.ref (q 0)]) (n := 1) (Nat.le_of_ble_eq_true rfl)
  rw [lg_entry_eq]
  generalize (lg_sl ([.ref (q 0)]) ++ List.replicate (1 - (lg_sl ([.ref (q 0)])).length) Slot.unset).toArray = ls at hl ⊢
  have hl : lv_has ls 1 [(0, .ref (q 0))] := hl
  refine lv_aload_n hx hb dX0_nights_0 rfl (lv_at hl 0 rfl) ?_
  refine va_get (D := D) (ci := 0) (v := .int (nI nc)) (C := RX0) (T := TX0) (N := 10) hx hb hts hin hown hK hP 0 rfl rfl 1 (by decide) (hts (.fieldLink RX0 13 "SmudgedStar" "nightCount" "I") (List.mem_of_getElem? (i := 1) rfl)) (fun _ h9 => h9) rfl dX0_nights_1 ?_
  exact W.iret (v := nI nc) hx hb hr (fun t9 ht9 hW9 => ⟨nI nc, rfl, rfl, ht9⟩) (fun _ h => absurd h List.not_mem_nil) dX0_nights_4
set_option maxHeartbeats 4000000 in
set_option maxRecDepth 100000 in
theorem g_X_astronomers (l : Launch) {D : va_G} {cI cZ : ClassId} {q : Nat → Nat} {tc nc ac : Nat} {ch : Int32} {U : Nat → Int32} {Z : Nat → Bool} {B L F : Nat → Int32} {H : Heap} (hP : va_P D vwCl (wX cI cZ q tc nc ac ch U Z B L F) H) (htc : tc ≤ 8) (hnc : nc ≤ 40) (hac : ac ≤ 8) : Met l yX0_astronomers wsX0_astronomers ({ frames := 0, cells := 0, slots := 0, locals := 0 }) (va_Pc [.ref (q 0)] (rd D vwCl (tyA cI cZ) H)) (vp_Si (fun r => r = nI ac)) 0 0 (fun _ => False) := by
  refine Met.ofW (cc := cX0_astronomers) (maxL := 1) (ret := (some .int)) (by decide) rfl ?_
  intro p e s m args below meth c s₁ B9 hml hv
  obtain ⟨rfl, hH, hK⟩ := hv
  subst hH
  have hx := B9.exec
  have hb := B9.bytes
  have hr := B9.returns
  have hts := atoms_spec (ws := wsX0_astronomers) B9.pre
  have hown : s.vm.findClass RX0 = some m.cls := findClass_of_methodNamed B9.named
  have hlocks := B9.notSynchronized
  have hin : ∀ w ∈ u_ws RX0 TX0 10, w ∈ wsX0_astronomers := fun w h => List.mem_cons_of_mem _ (List.mem_append_right _ h)
  have hl := lv_entry ([.ref (q 0)]) (n := 1) (Nat.le_of_ble_eq_true rfl)
  rw [lg_entry_eq]
  generalize (lg_sl ([.ref (q 0)]) ++ List.replicate (1 - (lg_sl ([.ref (q 0)])).length) Slot.unset).toArray = ls at hl ⊢
  have hl : lv_has ls 1 [(0, .ref (q 0))] := hl
  refine lv_aload_n hx hb dX0_astronomers_0 rfl (lv_at hl 0 rfl) ?_
  refine va_get (D := D) (ci := 0) (v := .int (nI ac)) (C := RX0) (T := TX0) (N := 10) hx hb hts hin hown hK hP 0 rfl rfl 5 (by decide) (hts (.fieldLink RX0 27 "SmudgedStar" "astronomerCount" "I") (List.mem_of_getElem? (i := 1) rfl)) (fun _ h9 => h9) rfl dX0_astronomers_1 ?_
  exact W.iret (v := nI ac) hx hb hr (fun t9 ht9 hW9 => ⟨nI ac, rfl, rfl, ht9⟩) (fun _ h => absurd h List.not_mem_nil) dX0_astronomers_4
set_option maxHeartbeats 4000000 in
set_option maxRecDepth 100000 in
theorem g_X_changesOfMind (l : Launch) {D : va_G} {cI cZ : ClassId} {q : Nat → Nat} {tc nc ac : Nat} {ch : Int32} {U : Nat → Int32} {Z : Nat → Bool} {B L F : Nat → Int32} {H : Heap} (hP : va_P D vwCl (wX cI cZ q tc nc ac ch U Z B L F) H) (htc : tc ≤ 8) (hnc : nc ≤ 40) (hac : ac ≤ 8) : Met l yX0_changesOfMind wsX0_changesOfMind ({ frames := 0, cells := 0, slots := 0, locals := 0 }) (va_Pc [.ref (q 0)] (rd D vwCl (tyA cI cZ) H)) (vp_Si (fun r => r = ch)) 0 0 (fun _ => False) := by
  refine Met.ofW (cc := cX0_changesOfMind) (maxL := 1) (ret := (some .int)) (by decide) rfl ?_
  intro p e s m args below meth c s₁ B9 hml hv
  obtain ⟨rfl, hH, hK⟩ := hv
  subst hH
  have hx := B9.exec
  have hb := B9.bytes
  have hr := B9.returns
  have hts := atoms_spec (ws := wsX0_changesOfMind) B9.pre
  have hown : s.vm.findClass RX0 = some m.cls := findClass_of_methodNamed B9.named
  have hlocks := B9.notSynchronized
  have hin : ∀ w ∈ u_ws RX0 TX0 10, w ∈ wsX0_changesOfMind := fun w h => List.mem_cons_of_mem _ (List.mem_append_right _ h)
  have hl := lv_entry ([.ref (q 0)]) (n := 1) (Nat.le_of_ble_eq_true rfl)
  rw [lg_entry_eq]
  generalize (lg_sl ([.ref (q 0)]) ++ List.replicate (1 - (lg_sl ([.ref (q 0)])).length) Slot.unset).toArray = ls at hl ⊢
  have hl : lv_has ls 1 [(0, .ref (q 0))] := hl
  refine lv_aload_n hx hb dX0_changesOfMind_0 rfl (lv_at hl 0 rfl) ?_
  refine va_get (D := D) (ci := 0) (v := .int ch) (C := RX0) (T := TX0) (N := 10) hx hb hts hin hown hK hP 0 rfl rfl 9 (by decide) (hts (.fieldLink RX0 39 "SmudgedStar" "mindsChanged" "I") (List.mem_of_getElem? (i := 1) rfl)) (fun _ h9 => h9) rfl dX0_changesOfMind_1 ?_
  exact W.iret (v := ch) hx hb hr (fun t9 ht9 hW9 => ⟨ch, rfl, rfl, ht9⟩) (fun _ h => absurd h List.not_mem_nil) dX0_changesOfMind_4
set_option maxHeartbeats 4000000 in
set_option maxRecDepth 100000 in
theorem g_X_usedIn (l : Launch) {D : va_G} {cI cZ : ClassId} {q : Nat → Nat} {tc nc ac : Nat} {ch : Int32} {U : Nat → Int32} {Z : Nat → Bool} {B L F : Nat → Int32} {H : Heap} (hP : va_P D vwCl (wX cI cZ q tc nc ac ch U Z B L F) H) (htc : tc ≤ 8) (hnc : nc ≤ 40) (hac : ac ≤ 8) {t : Nat} (ht : t < nc) : Met l yX0_usedIn wsX0_usedIn ({ frames := 1, cells := 0, slots := 0, locals := 21 }) (va_Pc [.ref (q 0), .int (nI t)] (rd D vwCl (tyA cI cZ) H)) (vp_Si (fun r => r = U t)) 0 0 (fun _ => False) := by
  refine Met.ofW (cc := cX0_usedIn) (maxL := 2) (ret := (some .int)) (by decide) rfl ?_
  intro p e s m args below meth c s₁ B9 hml hv
  obtain ⟨rfl, hH, hK⟩ := hv
  subst hH
  have hx := B9.exec
  have hb := B9.bytes
  have hr := B9.returns
  have hts := atoms_spec (ws := wsX0_usedIn) B9.pre
  have hown : s.vm.findClass RX0 = some m.cls := findClass_of_methodNamed B9.named
  have hlocks := B9.notSynchronized
  have hin : ∀ w ∈ u_ws RX0 TX0 10, w ∈ wsX0_usedIn := fun w h => List.mem_cons_of_mem _ (List.mem_append_left _ (List.mem_append_right _ h))
  have hl := lv_entry ([.ref (q 0), .int (nI t)]) (n := 2) (Nat.le_of_ble_eq_true rfl)
  rw [lg_entry_eq]
  generalize (lg_sl ([.ref (q 0), .int (nI t)]) ++ List.replicate (2 - (lg_sl ([.ref (q 0), .int (nI t)])).length) Slot.unset).toArray = ls at hl ⊢
  have hl : lv_has ls 2 [(0, .ref (q 0)), (1, .int (nI t))] := hl
  refine lv_aload_n hx hb dX0_usedIn_0 rfl (lv_at hl 0 rfl) ?_
  refine lv_iload_n hx hb dX0_usedIn_1 rfl (lv_at hl 1 rfl) ?_
  refine pcV_v (As := [.int (nI t)]) (rest := []) ⟨hx, hb, hml, hown, hts⟩ (g_X_requireNight l hP htc hnc hac ht) (cwV 1 hts gX0_usedIn_X0_requireNight rfl rfl rfl hdX0_requireNight ⟨Nat.le_of_ble_eq_true rfl, Nat.le_of_ble_eq_true rfl⟩) (va_recv hK hP (ci := 0) (q0 := 0) rfl rfl) hK rfl hl.1 (Nat.le_of_ble_eq_true rfl) rfl dX0_usedIn_2 ⟨Nat.le_of_ble_eq_true rfl, Nat.le_of_ble_eq_true rfl⟩ ?_
  refine lv_aload_n hx hb dX0_usedIn_5 rfl (lv_at hl 0 rfl) ?_
  refine va_get (D := D) (ci := 0) (v := .ref (q 1)) (C := RX0) (T := TX0) (N := 10) hx hb hts hin hown hK hP 0 rfl rfl 2 (by decide) (hts (.fieldLink RX0 16 "SmudgedStar" "usedThings" "[I") (List.mem_of_getElem? (i := 1) rfl)) (fun _ h9 => h9) rfl dX0_usedIn_6 ?_
  refine lv_iload_n hx hb dX0_usedIn_9 rfl (lv_at hl 1 rfl) ?_
  refine ia_ld hx hb hK hP 1 0 rfl rfl (j := t) (by omega) (by decide) dX0_usedIn_10 ?_
  exact W.iret (v := U t) hx hb hr (fun t9 ht9 hW9 => ⟨U t, rfl, rfl, ht9⟩) (fun _ h => absurd h List.not_mem_nil) dX0_usedIn_11
set_option maxHeartbeats 4000000 in
set_option maxRecDepth 100000 in
theorem g_X_isSmudged (l : Launch) {D : va_G} {cI cZ : ClassId} {q : Nat → Nat} {tc nc ac : Nat} {ch : Int32} {U : Nat → Int32} {Z : Nat → Bool} {B L F : Nat → Int32} {H : Heap} (hP : va_P D vwCl (wX cI cZ q tc nc ac ch U Z B L F) H) (htc : tc ≤ 8) (hnc : nc ≤ 40) (hac : ac ≤ 8) {t : Nat} (ht : t < nc) : Met l yX0_isSmudged wsX0_isSmudged ({ frames := 1, cells := 0, slots := 0, locals := 21 }) (va_Pc [.ref (q 0), .int (nI t)] (rd D vwCl (tyA cI cZ) H)) (vp_Si (fun r => r = bI (Z t))) 0 0 (fun _ => False) := by
  refine Met.ofW (cc := cX0_isSmudged) (maxL := 2) (ret := (some .boolean)) (by decide) rfl ?_
  intro p e s m args below meth c s₁ B9 hml hv
  obtain ⟨rfl, hH, hK⟩ := hv
  subst hH
  have hx := B9.exec
  have hb := B9.bytes
  have hr := B9.returns
  have hts := atoms_spec (ws := wsX0_isSmudged) B9.pre
  have hown : s.vm.findClass RX0 = some m.cls := findClass_of_methodNamed B9.named
  have hlocks := B9.notSynchronized
  have hin : ∀ w ∈ u_ws RX0 TX0 10, w ∈ wsX0_isSmudged := fun w h => List.mem_cons_of_mem _ (List.mem_append_left _ (List.mem_append_right _ h))
  have hl := lv_entry ([.ref (q 0), .int (nI t)]) (n := 2) (Nat.le_of_ble_eq_true rfl)
  rw [lg_entry_eq]
  generalize (lg_sl ([.ref (q 0), .int (nI t)]) ++ List.replicate (2 - (lg_sl ([.ref (q 0), .int (nI t)])).length) Slot.unset).toArray = ls at hl ⊢
  have hl : lv_has ls 2 [(0, .ref (q 0)), (1, .int (nI t))] := hl
  refine lv_aload_n hx hb dX0_isSmudged_0 rfl (lv_at hl 0 rfl) ?_
  refine lv_iload_n hx hb dX0_isSmudged_1 rfl (lv_at hl 1 rfl) ?_
  refine pcV_v (As := [.int (nI t)]) (rest := []) ⟨hx, hb, hml, hown, hts⟩ (g_X_requireNight l hP htc hnc hac ht) (cwV 1 hts gX0_isSmudged_X0_requireNight rfl rfl rfl hdX0_requireNight ⟨Nat.le_of_ble_eq_true rfl, Nat.le_of_ble_eq_true rfl⟩) (va_recv hK hP (ci := 0) (q0 := 0) rfl rfl) hK rfl hl.1 (Nat.le_of_ble_eq_true rfl) rfl dX0_isSmudged_2 ⟨Nat.le_of_ble_eq_true rfl, Nat.le_of_ble_eq_true rfl⟩ ?_
  refine lv_aload_n hx hb dX0_isSmudged_5 rfl (lv_at hl 0 rfl) ?_
  refine va_get (D := D) (ci := 0) (v := .ref (q 2)) (C := RX0) (T := TX0) (N := 10) hx hb hts hin hown hK hP 0 rfl rfl 3 (by decide) (hts (.fieldLink RX0 20 "SmudgedStar" "smudgeSeen" "[Z") (List.mem_of_getElem? (i := 1) rfl)) (fun _ h9 => h9) rfl dX0_isSmudged_6 ?_
  refine lv_iload_n hx hb dX0_isSmudged_9 rfl (lv_at hl 1 rfl) ?_
  refine za_ld (f := Z) hx hb hK hP 2 1 rfl rfl (j := t) (by omega) (by decide) dX0_isSmudged_10 ?_
  exact W.zret (v := bI (Z t)) (ty := .boolean) hx hb hr (bI_nar _) (fun t9 ht9 hW9 => ⟨bI (Z t), rfl, rfl, ht9⟩) (fun _ h => absurd h List.not_mem_nil) dX0_isSmudged_11
set_option maxHeartbeats 4000000 in
set_option maxRecDepth 100000 in
theorem g_X_blamedBy (l : Launch) {D : va_G} {cI cZ : ClassId} {q : Nat → Nat} {tc nc ac : Nat} {ch : Int32} {U : Nat → Int32} {Z : Nat → Bool} {B L F : Nat → Int32} {H : Heap} (hP : va_P D vwCl (wX cI cZ q tc nc ac ch U Z B L F) H) (htc : tc ≤ 8) (hnc : nc ≤ 40) (hac : ac ≤ 8) {t : Nat} (ht : t < ac) : Met l yX0_blamedBy wsX0_blamedBy ({ frames := 1, cells := 0, slots := 0, locals := 21 }) (va_Pc [.ref (q 0), .int (nI t)] (rd D vwCl (tyA cI cZ) H)) (vp_Si (fun r => r = B t)) 0 0 (fun _ => False) := by
  refine Met.ofW (cc := cX0_blamedBy) (maxL := 2) (ret := (some .int)) (by decide) rfl ?_
  intro p e s m args below meth c s₁ B9 hml hv
  obtain ⟨rfl, hH, hK⟩ := hv
  subst hH
  have hx := B9.exec
  have hb := B9.bytes
  have hr := B9.returns
  have hts := atoms_spec (ws := wsX0_blamedBy) B9.pre
  have hown : s.vm.findClass RX0 = some m.cls := findClass_of_methodNamed B9.named
  have hlocks := B9.notSynchronized
  have hin : ∀ w ∈ u_ws RX0 TX0 10, w ∈ wsX0_blamedBy := fun w h => List.mem_cons_of_mem _ (List.mem_append_left _ (List.mem_append_right _ h))
  have hl := lv_entry ([.ref (q 0), .int (nI t)]) (n := 2) (Nat.le_of_ble_eq_true rfl)
  rw [lg_entry_eq]
  generalize (lg_sl ([.ref (q 0), .int (nI t)]) ++ List.replicate (2 - (lg_sl ([.ref (q 0), .int (nI t)])).length) Slot.unset).toArray = ls at hl ⊢
  have hl : lv_has ls 2 [(0, .ref (q 0)), (1, .int (nI t))] := hl
  refine lv_aload_n hx hb dX0_blamedBy_0 rfl (lv_at hl 0 rfl) ?_
  refine lv_iload_n hx hb dX0_blamedBy_1 rfl (lv_at hl 1 rfl) ?_
  refine pcV_v (As := [.int (nI t)]) (rest := []) ⟨hx, hb, hml, hown, hts⟩ (g_X_requireAstronomer l hP htc hnc hac ht) (cwV 1 hts gX0_blamedBy_X0_requireAstronomer rfl rfl rfl hdX0_requireAstronomer ⟨Nat.le_of_ble_eq_true rfl, Nat.le_of_ble_eq_true rfl⟩) (va_recv hK hP (ci := 0) (q0 := 0) rfl rfl) hK rfl hl.1 (Nat.le_of_ble_eq_true rfl) rfl dX0_blamedBy_2 ⟨Nat.le_of_ble_eq_true rfl, Nat.le_of_ble_eq_true rfl⟩ ?_
  refine lv_aload_n hx hb dX0_blamedBy_5 rfl (lv_at hl 0 rfl) ?_
  refine va_get (D := D) (ci := 0) (v := .ref (q 4)) (C := RX0) (T := TX0) (N := 10) hx hb hts hin hown hK hP 0 rfl rfl 6 (by decide) (hts (.fieldLink RX0 30 "SmudgedStar" "blamedThings" "[I") (List.mem_of_getElem? (i := 1) rfl)) (fun _ h9 => h9) rfl dX0_blamedBy_6 ?_
  refine lv_iload_n hx hb dX0_blamedBy_9 rfl (lv_at hl 1 rfl) ?_
  refine ia_ld hx hb hK hP 4 0 rfl rfl (j := t) (by omega) (by decide) dX0_blamedBy_10 ?_
  exact W.iret (v := B t) hx hb hr (fun t9 ht9 hW9 => ⟨B t, rfl, rfl, ht9⟩) (fun _ h => absurd h List.not_mem_nil) dX0_blamedBy_11
set_option maxHeartbeats 4000000 in
set_option maxRecDepth 100000 in
theorem g_X_stubbornnessOf (l : Launch) {D : va_G} {cI cZ : ClassId} {q : Nat → Nat} {tc nc ac : Nat} {ch : Int32} {U : Nat → Int32} {Z : Nat → Bool} {B L F : Nat → Int32} {H : Heap} (hP : va_P D vwCl (wX cI cZ q tc nc ac ch U Z B L F) H) (htc : tc ≤ 8) (hnc : nc ≤ 40) (hac : ac ≤ 8) {t : Nat} (ht : t < ac) : Met l yX0_stubbornnessOf wsX0_stubbornnessOf ({ frames := 1, cells := 0, slots := 0, locals := 21 }) (va_Pc [.ref (q 0), .int (nI t)] (rd D vwCl (tyA cI cZ) H)) (vp_Si (fun r => r = L t)) 0 0 (fun _ => False) := by
  refine Met.ofW (cc := cX0_stubbornnessOf) (maxL := 2) (ret := (some .int)) (by decide) rfl ?_
  intro p e s m args below meth c s₁ B9 hml hv
  obtain ⟨rfl, hH, hK⟩ := hv
  subst hH
  have hx := B9.exec
  have hb := B9.bytes
  have hr := B9.returns
  have hts := atoms_spec (ws := wsX0_stubbornnessOf) B9.pre
  have hown : s.vm.findClass RX0 = some m.cls := findClass_of_methodNamed B9.named
  have hlocks := B9.notSynchronized
  have hin : ∀ w ∈ u_ws RX0 TX0 10, w ∈ wsX0_stubbornnessOf := fun w h => List.mem_cons_of_mem _ (List.mem_append_left _ (List.mem_append_right _ h))
  have hl := lv_entry ([.ref (q 0), .int (nI t)]) (n := 2) (Nat.le_of_ble_eq_true rfl)
  rw [lg_entry_eq]
  generalize (lg_sl ([.ref (q 0), .int (nI t)]) ++ List.replicate (2 - (lg_sl ([.ref (q 0), .int (nI t)])).length) Slot.unset).toArray = ls at hl ⊢
  have hl : lv_has ls 2 [(0, .ref (q 0)), (1, .int (nI t))] := hl
  refine lv_aload_n hx hb dX0_stubbornnessOf_0 rfl (lv_at hl 0 rfl) ?_
  refine lv_iload_n hx hb dX0_stubbornnessOf_1 rfl (lv_at hl 1 rfl) ?_
  refine pcV_v (As := [.int (nI t)]) (rest := []) ⟨hx, hb, hml, hown, hts⟩ (g_X_requireAstronomer l hP htc hnc hac ht) (cwV 1 hts gX0_stubbornnessOf_X0_requireAstronomer rfl rfl rfl hdX0_requireAstronomer ⟨Nat.le_of_ble_eq_true rfl, Nat.le_of_ble_eq_true rfl⟩) (va_recv hK hP (ci := 0) (q0 := 0) rfl rfl) hK rfl hl.1 (Nat.le_of_ble_eq_true rfl) rfl dX0_stubbornnessOf_2 ⟨Nat.le_of_ble_eq_true rfl, Nat.le_of_ble_eq_true rfl⟩ ?_
  refine lv_aload_n hx hb dX0_stubbornnessOf_5 rfl (lv_at hl 0 rfl) ?_
  refine va_get (D := D) (ci := 0) (v := .ref (q 5)) (C := RX0) (T := TX0) (N := 10) hx hb hts hin hown hK hP 0 rfl rfl 7 (by decide) (hts (.fieldLink RX0 33 "SmudgedStar" "stubbornnessLeft" "[I") (List.mem_of_getElem? (i := 1) rfl)) (fun _ h9 => h9) rfl dX0_stubbornnessOf_6 ?_
  refine lv_iload_n hx hb dX0_stubbornnessOf_9 rfl (lv_at hl 1 rfl) ?_
  refine ia_ld hx hb hK hP 5 0 rfl rfl (j := t) (by omega) (by decide) dX0_stubbornnessOf_10 ?_
  exact W.iret (v := L t) hx hb hr (fun t9 ht9 hW9 => ⟨L t, rfl, rfl, ht9⟩) (fun _ h => absurd h List.not_mem_nil) dX0_stubbornnessOf_11
set_option maxHeartbeats 4000000 in
set_option maxRecDepth 100000 in
theorem g_X_unexplainedBy (l : Launch) {D : va_G} {cI cZ : ClassId} {q : Nat → Nat} {tc nc ac : Nat} {ch : Int32} {U : Nat → Int32} {Z : Nat → Bool} {B L F : Nat → Int32} {H : Heap} (hP : va_P D vwCl (wX cI cZ q tc nc ac ch U Z B L F) H) (htc : tc ≤ 8) (hnc : nc ≤ 40) (hac : ac ≤ 8) {t k : Nat} (ht : t < ac) (hk : k < 256) (hB : B t = nI k) : Met l yX0_unexplainedBy wsX0_unexplainedBy ({ frames := 1, cells := 0, slots := 0, locals := 21 }) (va_Pc [.ref (q 0), .int (nI t)] (rd D vwCl (tyA cI cZ) H)) (vp_Si (fun r => r = nI (un U Z (B t) nc))) 0 0 (fun _ => False) := by
  refine Met.ofW (cc := cX0_unexplainedBy) (maxL := 2) (ret := (some .int)) (by decide) rfl ?_
  intro p e s m args below meth c s₁ B9 hml hv
  obtain ⟨rfl, hH, hK⟩ := hv
  subst hH
  have hx := B9.exec
  have hb := B9.bytes
  have hr := B9.returns
  have hts := atoms_spec (ws := wsX0_unexplainedBy) B9.pre
  have hown : s.vm.findClass RX0 = some m.cls := findClass_of_methodNamed B9.named
  have hlocks := B9.notSynchronized
  have hin : ∀ w ∈ u_ws RX0 TX0 10, w ∈ wsX0_unexplainedBy := fun w h => List.mem_cons_of_mem _ (List.mem_append_left _ (List.mem_append_right _ h))
  have hl := lv_entry ([.ref (q 0), .int (nI t)]) (n := 2) (Nat.le_of_ble_eq_true rfl)
  rw [lg_entry_eq]
  generalize (lg_sl ([.ref (q 0), .int (nI t)]) ++ List.replicate (2 - (lg_sl ([.ref (q 0), .int (nI t)])).length) Slot.unset).toArray = ls at hl ⊢
  have hl : lv_has ls 2 [(0, .ref (q 0)), (1, .int (nI t))] := hl
  refine lv_aload_n hx hb dX0_unexplainedBy_0 rfl (lv_at hl 0 rfl) ?_
  refine lv_iload_n hx hb dX0_unexplainedBy_1 rfl (lv_at hl 1 rfl) ?_
  refine pcV_v (As := [.int (nI t)]) (rest := []) ⟨hx, hb, hml, hown, hts⟩ (g_X_requireAstronomer l hP htc hnc hac ht) (cwV 1 hts gX0_unexplainedBy_X0_requireAstronomer rfl rfl rfl hdX0_requireAstronomer ⟨Nat.le_of_ble_eq_true rfl, Nat.le_of_ble_eq_true rfl⟩) (va_recv hK hP (ci := 0) (q0 := 0) rfl rfl) hK rfl hl.1 (Nat.le_of_ble_eq_true rfl) rfl dX0_unexplainedBy_2 ⟨Nat.le_of_ble_eq_true rfl, Nat.le_of_ble_eq_true rfl⟩ ?_
  refine lv_aload_n hx hb dX0_unexplainedBy_5 rfl (lv_at hl 0 rfl) ?_
  refine lv_aload_n hx hb dX0_unexplainedBy_6 rfl (lv_at hl 0 rfl) ?_
  refine va_get (D := D) (ci := 0) (v := .ref (q 4)) (C := RX0) (T := TX0) (N := 10) hx hb hts hin hown hK hP 0 rfl rfl 6 (by decide) (hts (.fieldLink RX0 30 "SmudgedStar" "blamedThings" "[I") (List.mem_of_getElem? (i := 1) rfl)) (fun _ h9 => h9) rfl dX0_unexplainedBy_7 ?_
  refine lv_iload_n hx hb dX0_unexplainedBy_10 rfl (lv_at hl 1 rfl) ?_
  refine ia_ld hx hb hK hP 4 0 rfl rfl (j := t) (by omega) (by decide) dX0_unexplainedBy_11 ?_
  refine lv_cst (y := nI k) hB ?_
  refine pcV_i (As := [.int (nI k)]) (rest := []) ⟨hx, hb, hml, hown, hts⟩ (g_X_missesOf l hP htc hnc hac (k := k) hk) (cwV 1 hts gX0_unexplainedBy_X0_missesOf rfl rfl rfl hdX0_missesOf ⟨Nat.le_of_ble_eq_true rfl, Nat.le_of_ble_eq_true rfl⟩) (va_recv hK hP (ci := 0) (q0 := 0) rfl rfl) hK rfl hl.1 (Nat.le_of_ble_eq_true rfl) rfl dX0_unexplainedBy_12 ⟨Nat.le_of_ble_eq_true rfl, Nat.le_of_ble_eq_true rfl⟩ ?_
  exact W.iret (v := nI (un U Z (nI k) nc)) hx hb hr (fun t9 ht9 hW9 => ⟨nI (un U Z (nI k) nc), rfl, (by rw [hB]), ht9⟩) (fun _ h => absurd h List.not_mem_nil) dX0_unexplainedBy_15
set_option maxHeartbeats 4000000 in
set_option maxRecDepth 100000 in
theorem g_X_vote (l : Launch) {D : va_G} {cI cZ : ClassId} {q : Nat → Nat} {tc nc ac : Nat} {ch : Int32} {U : Nat → Int32} {Z : Nat → Bool} {B L F : Nat → Int32} {H : Heap} (hP : va_P D vwCl (wX cI cZ q tc nc ac ch U Z B L F) H) (htc : tc ≤ 8) (hnc : nc ≤ 40) (hac : ac ≤ 8) : Met l yX0_vote wsX0_vote ({ frames := 3, cells := 0, slots := 0, locals := 64 }) (va_Pc [.ref (q 0)] (rd D vwCl (tyA cI cZ) H)) (vp_Si (fun r => r = orf (fun t => decide (¬ nI (ct (fun a => ho (B a) (nI t)) ac) * 2 ≤ nI ac)) (fun t => (1 : Int32) <<< (nI t &&& 31)) tc)) 0 0 (fun _ => False) := by
  refine Met.ofW (cc := cX0_vote) (maxL := 3) (ret := (some .int)) (by decide) rfl ?_
  intro p e s m args below meth c s₁ B9 hml hv
  obtain ⟨rfl, hH, hK⟩ := hv
  subst hH
  have hx := B9.exec
  have hb := B9.bytes
  have hr := B9.returns
  have hts := atoms_spec (ws := wsX0_vote) B9.pre
  have hown : s.vm.findClass RX0 = some m.cls := findClass_of_methodNamed B9.named
  have hlocks := B9.notSynchronized
  have hin : ∀ w ∈ u_ws RX0 TX0 10, w ∈ wsX0_vote := fun w h => List.mem_cons_of_mem _ (List.mem_append_left _ (List.mem_append_right _ h))
  have hl := lv_entry ([.ref (q 0)]) (n := 3) (Nat.le_of_ble_eq_true rfl)
  rw [lg_entry_eq]
  generalize (lg_sl ([.ref (q 0)]) ++ List.replicate (3 - (lg_sl ([.ref (q 0)])).length) Slot.unset).toArray = ls at hl ⊢
  have hl : lv_has ls 3 [(0, .ref (q 0))] := hl
  refine lv_iconst (v := 0) hx hb dX0_vote_0 (by decide) ?_
  refine lv_istore_n (lv' := [(1, .int 0), (0, .ref (q 0))]) hx hb dX0_vote_1 rfl hl (by decide) rfl (fun ls hl => ?_)
  refine lv_iconst (v := 0) hx hb dX0_vote_2 (by decide) ?_
  refine lv_istore_n (lv' := [(2, .int 0), (1, .int 0), (0, .ref (q 0))]) hx hb dX0_vote_3 rfl hl (by decide) rfl (fun ls hl => ?_)
  refine w_loop (N := tc) (T := fun i => [(2, .int (nI i)), (1, .int (orf (fun t => decide (¬ nI (ct (fun a => ho (B a) (nI t)) ac) * 2 ≤ nI ac)) (fun t => (1 : Int32) <<< (nI t &&& 31)) i)), (0, .ref (q 0))]) (I := fun _ => True) 0 (Nat.zero_le _) trivial (lv_sub hl [0, 1, 2] rfl) (fun i ls hi hI hl ih => ?_)
  have hl : lv_has ls 3 [(2, .int (nI i)), (1, .int (orf (fun t => decide (¬ nI (ct (fun a => ho (B a) (nI t)) ac) * 2 ≤ nI ac)) (fun t => (1 : Int32) <<< (nI t &&& 31)) i)), (0, .ref (q 0))] := hl
  refine lv_iload_n hx hb dX0_vote_4 rfl (lv_at hl 0 rfl) ?_
  refine lv_aload_n hx hb dX0_vote_5 rfl (lv_at hl 2 rfl) ?_
  refine va_get (D := D) (ci := 0) (v := .int (nI tc)) (C := RX0) (T := TX0) (N := 10) hx hb hts hin hown hK hP 0 rfl rfl 0 (by decide) (hts (.fieldLink RX0 9 "SmudgedStar" "thingCount" "I") (List.mem_of_getElem? (i := 1) rfl)) (fun _ h9 => h9) rfl dX0_vote_6 ?_
  refine lv_icmp_ge (tgt := 39) hx hb dX0_vote_9 (by decide) (fun c9 => ?_) (fun c9 => ?_)
  · skip
    have hie : i = tc := gd_ge_t (by omega) hi c9
    rw [hie] at hl
    refine lv_iload_n hx hb dX0_vote_39 rfl (lv_at hl 1 rfl) ?_
    exact W.iret (v := orf (fun t => decide (¬ nI (ct (fun a => ho (B a) (nI t)) ac) * 2 ≤ nI ac)) (fun t => (1 : Int32) <<< (nI t &&& 31)) tc) hx hb hr (fun t9 ht9 hW9 => ⟨orf (fun t => decide (¬ nI (ct (fun a => ho (B a) (nI t)) ac) * 2 ≤ nI ac)) (fun t => (1 : Int32) <<< (nI t &&& 31)) tc, rfl, rfl, ht9⟩) (fun _ h => absurd h List.not_mem_nil) dX0_vote_40
  · skip
    have hlt : i < tc := gd_ge_f hi c9
    refine lv_aload_n hx hb dX0_vote_12 rfl (lv_at hl 2 rfl) ?_
    refine lv_iload_n hx hb dX0_vote_13 rfl (lv_at hl 0 rfl) ?_
    refine pcV_i (As := [.int (nI i)]) (rest := []) ⟨hx, hb, hml, hown, hts⟩ (g_X_votesFor l hP htc hnc hac (t := i) hlt) (cwV 1 hts gX0_vote_X0_votesFor rfl rfl rfl hdX0_votesFor ⟨Nat.le_of_ble_eq_true rfl, Nat.le_of_ble_eq_true rfl⟩) (va_recv hK hP (ci := 0) (q0 := 0) rfl rfl) hK rfl hl.1 (Nat.le_of_ble_eq_true rfl) rfl dX0_vote_14 ⟨Nat.le_of_ble_eq_true rfl, Nat.le_of_ble_eq_true rfl⟩ ?_
    refine lv_iconst (v := 2) hx hb dX0_vote_17 (by decide) ?_
    refine lv_imul hx hb dX0_vote_18 ?_
    refine lv_aload_n hx hb dX0_vote_19 rfl (lv_at hl 2 rfl) ?_
    refine va_get (D := D) (ci := 0) (v := .int (nI ac)) (C := RX0) (T := TX0) (N := 10) hx hb hts hin hown hK hP 0 rfl rfl 5 (by decide) (hts (.fieldLink RX0 27 "SmudgedStar" "astronomerCount" "I") (List.mem_of_getElem? (i := 2) rfl)) (fun _ h9 => h9) rfl dX0_vote_20 ?_
    refine lv_icmp_le (tgt := 33) hx hb dX0_vote_23 (by decide) (fun c23 => ?_) (fun c23 => ?_)
    · skip
      refine lv_iinc (v := nI (i + 1)) (lv' := [(2, .int (nI (i + 1))), (1, .int (orf (fun t => decide (¬ nI (ct (fun a => ho (B a) (nI t)) ac) * 2 ≤ nI ac)) (fun t => (1 : Int32) <<< (nI t &&& 31)) i)), (0, .ref (q 0))]) hx hb dX0_vote_33 hl (k := 0) rfl (nI_1 _) (by decide) rfl (fun ls hl => ?_)
      refine lv_goto (tgt := 4) hx hb dX0_vote_36 (by decide) ?_
      have e1 : (orf (fun t => decide (¬ nI (ct (fun a => ho (B a) (nI t)) ac) * 2 ≤ nI ac)) (fun t => (1 : Int32) <<< (nI t &&& 31)) i) = orf (fun t => decide (¬ nI (ct (fun a => ho (B a) (nI t)) ac) * 2 ≤ nI ac)) (fun t => (1 : Int32) <<< (nI t &&& 31)) (i + 1) := by first | exact orf_f (by simp [c9, c23]) | exact orf_t (by simp [c9, c23])
      have hl := lv_sub (l' := [(2, .int (nI (i + 1))), (1, .int (orf (fun t => decide (¬ nI (ct (fun a => ho (B a) (nI t)) ac) * 2 ≤ nI ac)) (fun t => (1 : Int32) <<< (nI t &&& 31)) i)), (0, .ref (q 0))]) hl [0, 1, 2] rfl
      rw [e1] at hl
      exact ih ls hlt trivial hl
    · skip
      refine lv_iload_n hx hb dX0_vote_26 rfl (lv_at hl 1 rfl) ?_
      refine lv_iload_n hx hb dX0_vote_27 rfl (lv_at hl 0 rfl) ?_
      refine pcS_i (As := [.int (nI i)]) (rest := [.int (orf (fun t => decide (¬ nI (ct (fun a => ho (B a) (nI t)) ac) * 2 ≤ nI ac)) (fun t => (1 : Int32) <<< (nI t &&& 31)) i)]) ⟨hx, hb, hml, hown, hts⟩ (g_X_setOf l (nI i)) (va_cwS 1 hts gX0_vote_X0_setOf rfl rfl rfl hdX0_setOf ⟨Nat.le_of_ble_eq_true rfl, Nat.le_of_ble_eq_true rfl⟩) rfl hl.1 (Nat.le_of_ble_eq_true rfl) rfl dX0_vote_28 ⟨Nat.le_of_ble_eq_true rfl, Nat.le_of_ble_eq_true rfl⟩ ?_
      refine lv_ior hx hb dX0_vote_31 ?_
      refine lv_istore_n (lv' := [(1, .int ((orf (fun t => decide (¬ nI (ct (fun a => ho (B a) (nI t)) ac) * 2 ≤ nI ac)) (fun t => (1 : Int32) <<< (nI t &&& 31)) i) ||| ((1 : Int32) <<< ((nI i) &&& 31)))), (2, .int (nI i)), (0, .ref (q 0))]) hx hb dX0_vote_32 rfl hl (by decide) rfl (fun ls hl => ?_)
      refine lv_iinc (v := nI (i + 1)) (lv' := [(2, .int (nI (i + 1))), (1, .int ((orf (fun t => decide (¬ nI (ct (fun a => ho (B a) (nI t)) ac) * 2 ≤ nI ac)) (fun t => (1 : Int32) <<< (nI t &&& 31)) i) ||| ((1 : Int32) <<< ((nI i) &&& 31)))), (0, .ref (q 0))]) hx hb dX0_vote_33 hl (k := 1) rfl (nI_1 _) (by decide) rfl (fun ls hl => ?_)
      refine lv_goto (tgt := 4) hx hb dX0_vote_36 (by decide) ?_
      have e1 : ((orf (fun t => decide (¬ nI (ct (fun a => ho (B a) (nI t)) ac) * 2 ≤ nI ac)) (fun t => (1 : Int32) <<< (nI t &&& 31)) i) ||| ((1 : Int32) <<< ((nI i) &&& 31))) = orf (fun t => decide (¬ nI (ct (fun a => ho (B a) (nI t)) ac) * 2 ≤ nI ac)) (fun t => (1 : Int32) <<< (nI t &&& 31)) (i + 1) := by first | exact orf_f (by simp [c9, c23]) | exact orf_t (by simp [c9, c23])
      have hl := lv_sub (l' := [(2, .int (nI (i + 1))), (1, .int ((orf (fun t => decide (¬ nI (ct (fun a => ho (B a) (nI t)) ac) * 2 ≤ nI ac)) (fun t => (1 : Int32) <<< (nI t &&& 31)) i) ||| ((1 : Int32) <<< ((nI i) &&& 31)))), (0, .ref (q 0))]) hl [0, 1, 2] rfl
      rw [e1] at hl
      exact ih ls hlt trivial hl
