/-! SmudgedStarModel: contracts of its methods -/
set_option maxHeartbeats 4000000 in
set_option maxRecDepth 100000 in
theorem g_M_nightsOf (l : Launch) {D : va_G} {cI cZ : ClassId} {r : Nat → Nat} {th : Int32} {tc nc ac : Nat} {ch : Int32} {U : Nat → Int32} {Z : Nat → Bool} {B L F : Nat → Int32} {H : Heap} (hP : va_P D vwCl (wM cI cZ r th tc nc ac ch U Z B L F) H) (htc : tc ≤ 8) (hnc : nc ≤ 40) (hac : ac ≤ 8) {t : Nat} {z : Bool} : Met l yX1_nightsOf wsX1_nightsOf ({ frames := 1, cells := 0, slots := 0, locals := 21 }) (va_Pc [.ref (r 0), .int (nI t), .int (bI z)] (rd D vwCl (tyA cI cZ) H)) (vp_Si (fun r => r = nI (ct (fun j => hs (U j) (nI t) && (Z j || !z)) nc))) 0 0 (fun _ => False) := by
  refine Met.ofW (cc := cX1_nightsOf) (maxL := 5) (ret := (some .int)) (by decide) rfl ?_
  intro p e s m args below meth c s₁ B9 hml hv
  obtain ⟨rfl, hH, hK⟩ := hv
  subst hH
  have hx := B9.exec
  have hb := B9.bytes
  have hr := B9.returns
  have hts := atoms_spec (ws := wsX1_nightsOf) B9.pre
  have hown : s.vm.findClass RX1 = some m.cls := findClass_of_methodNamed B9.named
  have hlocks := B9.notSynchronized
  have hin : ∀ w ∈ u_ws RX1 TX1 10, w ∈ wsX1_nightsOf := fun w h => List.mem_cons_of_mem _ (List.mem_append_right _ h)
  have hl := lv_entry ([.ref (r 0), .int (nI t), .int (bI z)]) (n := 5) (Nat.le_of_ble_eq_true rfl)
  rw [lg_entry_eq]
  generalize (lg_sl ([.ref (r 0), .int (nI t), .int (bI z)]) ++ List.replicate (5 - (lg_sl ([.ref (r 0), .int (nI t), .int (bI z)])).length) Slot.unset).toArray = ls at hl ⊢
  have hl : lv_has ls 5 [(0, .ref (r 0)), (1, .int (nI t)), (2, .int (bI z))] := hl
  refine lv_iconst (v := 0) hx hb dX1_nightsOf_0 (by decide) ?_
  refine lv_istore_n (lv' := [(3, .int 0), (0, .ref (r 0)), (1, .int (nI t)), (2, .int (bI z))]) hx hb dX1_nightsOf_1 rfl hl (by decide) rfl (fun ls hl => ?_)
  refine lv_iconst (v := 0) hx hb dX1_nightsOf_2 (by decide) ?_
  refine lv_istore (lv' := [(4, .int 0), (3, .int 0), (0, .ref (r 0)), (1, .int (nI t)), (2, .int (bI z))]) hx hb dX1_nightsOf_3 hl (by decide) rfl (fun ls hl => ?_)
  refine w_loop (N := nc) (T := fun i => [(4, .int (nI i)), (3, .int (nI (ct (fun j => hs (U j) (nI t) && (Z j || !z)) i))), (0, .ref (r 0)), (1, .int (nI t)), (2, .int (bI z))]) (I := fun _ => True) 0 (Nat.zero_le _) trivial (lv_sub hl [0, 1, 2, 3, 4] rfl) (fun i ls hi hI hl ih => ?_)
  have hl : lv_has ls 5 [(4, .int (nI i)), (3, .int (nI (ct (fun j => hs (U j) (nI t) && (Z j || !z)) i))), (0, .ref (r 0)), (1, .int (nI t)), (2, .int (bI z))] := hl
  refine lv_iload hx hb dX1_nightsOf_5 (lv_at hl 0 rfl) ?_
  refine lv_aload_n hx hb dX1_nightsOf_7 rfl (lv_at hl 2 rfl) ?_
  refine va_get (D := D) (ci := 1) (v := .int (nI nc)) (C := RX1) (T := TX1) (N := 10) hx hb hts hin hown hK hP 0 rfl rfl 2 (by decide) (hts (.fieldLink RX1 37 "SmudgedStarModel" "nights" "I") (List.mem_of_getElem? (i := 1) rfl)) (fun _ h9 => h9) rfl dX1_nightsOf_8 ?_
  refine lv_icmp_ge (tgt := 56) hx hb dX1_nightsOf_11 (by decide) (fun c11 => ?_) (fun c11 => ?_)
  · skip
    have hie : i = nc := gd_ge_t (by omega) hi c11
    rw [hie] at hl
    refine lv_iload_n hx hb dX1_nightsOf_56 rfl (lv_at hl 1 rfl) ?_
    exact W.iret (v := nI (ct (fun j => hs (U j) (nI t) && (Z j || !z)) nc)) hx hb hr (fun t9 ht9 hW9 => ⟨nI (ct (fun j => hs (U j) (nI t) && (Z j || !z)) nc), rfl, rfl, ht9⟩) (fun _ h => absurd h List.not_mem_nil) dX1_nightsOf_57
  · skip
    have hlt : i < nc := gd_ge_f hi c11
    refine lv_iload_n hx hb dX1_nightsOf_14 rfl (lv_at hl 1 rfl) ?_
    refine lv_aload_n hx hb dX1_nightsOf_15 rfl (lv_at hl 2 rfl) ?_
    refine va_get (D := D) (ci := 1) (v := .ref (r 1)) (C := RX1) (T := TX1) (N := 10) hx hb hts hin hown hK hP 0 rfl rfl 3 (by decide) (hts (.fieldLink RX1 9 "SmudgedStarModel" "used" "[I") (List.mem_of_getElem? (i := 2) rfl)) (fun _ h9 => h9) rfl dX1_nightsOf_16 ?_
    refine lv_iload hx hb dX1_nightsOf_19 (lv_at hl 0 rfl) ?_
    refine ia_ld hx hb hK hP 1 0 rfl rfl (j := i) (by omega) (by decide) dX1_nightsOf_21 ?_
    refine lv_iload_n hx hb dX1_nightsOf_22 rfl (lv_at hl 3 rfl) ?_
    refine pcS_i (As := [.int (U i), .int (nI t)]) (rest := [.int (nI (ct (fun j => hs (U j) (nI t) && (Z j || !z)) i))]) ⟨hx, hb, hml, hown, hts⟩ (g_M_has l (U i) (nI t)) (va_cwS 2 hts gX1_nightsOf_X1_has rfl rfl rfl hdX1_has ⟨Nat.le_of_ble_eq_true rfl, Nat.le_of_ble_eq_true rfl⟩) rfl hl.1 (Nat.le_of_ble_eq_true rfl) rfl dX1_nightsOf_23 ⟨Nat.le_of_ble_eq_true rfl, Nat.le_of_ble_eq_true rfl⟩ ?_
    refine lv_ifb_eq (tgt := 47) hx hb dX1_nightsOf_26 (by decide) (fun c26 => ?_) (fun c26 => ?_)
    · skip
      refine lv_iconst (v := 0) hx hb dX1_nightsOf_47 (by decide) ?_
      refine lv_iadd hx hb dX1_nightsOf_48 ?_
      refine lv_istore_n (lv' := [(3, .int ((nI (ct (fun j => hs (U j) (nI t) && (Z j || !z)) i)) + 0)), (4, .int (nI i)), (0, .ref (r 0)), (1, .int (nI t)), (2, .int (bI z))]) hx hb dX1_nightsOf_49 rfl hl (by decide) rfl (fun ls hl => ?_)
      refine lv_iinc (v := nI (i + 1)) (lv' := [(4, .int (nI (i + 1))), (3, .int ((nI (ct (fun j => hs (U j) (nI t) && (Z j || !z)) i)) + 0)), (0, .ref (r 0)), (1, .int (nI t)), (2, .int (bI z))]) hx hb dX1_nightsOf_50 hl (k := 1) rfl (nI_1 _) (by decide) rfl (fun ls hl => ?_)
      refine lv_goto (tgt := 5) hx hb dX1_nightsOf_53 (by decide) ?_
      have e3 : ((nI (ct (fun j => hs (U j) (nI t) && (Z j || !z)) i)) + 0) = nI (ct (fun j => hs (U j) (nI t) && (Z j || !z)) (i + 1)) := by first | exact ct_t1 (by simp [c11, c26]) | exact ct_t (by simp [c11, c26]) | exact ct_f (by simp [c11, c26]) | exact ct_f0 (by simp [c11, c26])
      have hl := lv_sub (l' := [(4, .int (nI (i + 1))), (3, .int ((nI (ct (fun j => hs (U j) (nI t) && (Z j || !z)) i)) + 0)), (0, .ref (r 0)), (1, .int (nI t)), (2, .int (bI z))]) hl [0, 1, 2, 3, 4] rfl
      rw [e3] at hl
      exact ih ls hlt trivial hl
    · skip
      refine lv_aload_n hx hb dX1_nightsOf_29 rfl (lv_at hl 2 rfl) ?_
      refine va_get (D := D) (ci := 1) (v := .ref (r 2)) (C := RX1) (T := TX1) (N := 10) hx hb hts hin hown hK hP 0 rfl rfl 4 (by decide) (hts (.fieldLink RX1 13 "SmudgedStarModel" "smudged" "[Z") (List.mem_of_getElem? (i := 3) rfl)) (fun _ h9 => h9) rfl dX1_nightsOf_30 ?_
      refine lv_iload hx hb dX1_nightsOf_33 (lv_at hl 0 rfl) ?_
      refine za_ld (f := Z) hx hb hK hP 2 1 rfl rfl (j := i) (by omega) (by decide) dX1_nightsOf_35 ?_
      refine lv_ifb_ne (tgt := 43) hx hb dX1_nightsOf_36 (by decide) (fun c36 => ?_) (fun c36 => ?_)
      · skip
        refine lv_iconst (v := 1) hx hb dX1_nightsOf_43 (by decide) ?_
        refine lv_goto (tgt := 48) hx hb dX1_nightsOf_44 (by decide) ?_
        refine lv_iadd hx hb dX1_nightsOf_48 ?_
        refine lv_istore_n (lv' := [(3, .int ((nI (ct (fun j => hs (U j) (nI t) && (Z j || !z)) i)) + 1)), (4, .int (nI i)), (0, .ref (r 0)), (1, .int (nI t)), (2, .int (bI z))]) hx hb dX1_nightsOf_49 rfl hl (by decide) rfl (fun ls hl => ?_)
        refine lv_iinc (v := nI (i + 1)) (lv' := [(4, .int (nI (i + 1))), (3, .int ((nI (ct (fun j => hs (U j) (nI t) && (Z j || !z)) i)) + 1)), (0, .ref (r 0)), (1, .int (nI t)), (2, .int (bI z))]) hx hb dX1_nightsOf_50 hl (k := 1) rfl (nI_1 _) (by decide) rfl (fun ls hl => ?_)
        refine lv_goto (tgt := 5) hx hb dX1_nightsOf_53 (by decide) ?_
        have e3 : ((nI (ct (fun j => hs (U j) (nI t) && (Z j || !z)) i)) + 1) = nI (ct (fun j => hs (U j) (nI t) && (Z j || !z)) (i + 1)) := by first | exact ct_t1 (by simp [c11, c26, c36]) | exact ct_t (by simp [c11, c26, c36]) | exact ct_f (by simp [c11, c26, c36]) | exact ct_f0 (by simp [c11, c26, c36])
        have hl := lv_sub (l' := [(4, .int (nI (i + 1))), (3, .int ((nI (ct (fun j => hs (U j) (nI t) && (Z j || !z)) i)) + 1)), (0, .ref (r 0)), (1, .int (nI t)), (2, .int (bI z))]) hl [0, 1, 2, 3, 4] rfl
        rw [e3] at hl
        exact ih ls hlt trivial hl
      · skip
        refine lv_iload_n hx hb dX1_nightsOf_39 rfl (lv_at hl 4 rfl) ?_
        refine lv_ifb_ne (tgt := 47) hx hb dX1_nightsOf_40 (by decide) (fun c40 => ?_) (fun c40 => ?_)
        · skip
          refine lv_iconst (v := 0) hx hb dX1_nightsOf_47 (by decide) ?_
          refine lv_iadd hx hb dX1_nightsOf_48 ?_
          refine lv_istore_n (lv' := [(3, .int ((nI (ct (fun j => hs (U j) (nI t) && (Z j || !z)) i)) + 0)), (4, .int (nI i)), (0, .ref (r 0)), (1, .int (nI t)), (2, .int (bI z))]) hx hb dX1_nightsOf_49 rfl hl (by decide) rfl (fun ls hl => ?_)
          refine lv_iinc (v := nI (i + 1)) (lv' := [(4, .int (nI (i + 1))), (3, .int ((nI (ct (fun j => hs (U j) (nI t) && (Z j || !z)) i)) + 0)), (0, .ref (r 0)), (1, .int (nI t)), (2, .int (bI z))]) hx hb dX1_nightsOf_50 hl (k := 1) rfl (nI_1 _) (by decide) rfl (fun ls hl => ?_)
          refine lv_goto (tgt := 5) hx hb dX1_nightsOf_53 (by decide) ?_
          have e3 : ((nI (ct (fun j => hs (U j) (nI t) && (Z j || !z)) i)) + 0) = nI (ct (fun j => hs (U j) (nI t) && (Z j || !z)) (i + 1)) := by first | exact ct_t1 (by simp [c11, c26, c36, c40]) | exact ct_t (by simp [c11, c26, c36, c40]) | exact ct_f (by simp [c11, c26, c36, c40]) | exact ct_f0 (by simp [c11, c26, c36, c40])
          have hl := lv_sub (l' := [(4, .int (nI (i + 1))), (3, .int ((nI (ct (fun j => hs (U j) (nI t) && (Z j || !z)) i)) + 0)), (0, .ref (r 0)), (1, .int (nI t)), (2, .int (bI z))]) hl [0, 1, 2, 3, 4] rfl
          rw [e3] at hl
          exact ih ls hlt trivial hl
        · skip
          refine lv_iconst (v := 1) hx hb dX1_nightsOf_43 (by decide) ?_
          refine lv_goto (tgt := 48) hx hb dX1_nightsOf_44 (by decide) ?_
          refine lv_iadd hx hb dX1_nightsOf_48 ?_
          refine lv_istore_n (lv' := [(3, .int ((nI (ct (fun j => hs (U j) (nI t) && (Z j || !z)) i)) + 1)), (4, .int (nI i)), (0, .ref (r 0)), (1, .int (nI t)), (2, .int (bI z))]) hx hb dX1_nightsOf_49 rfl hl (by decide) rfl (fun ls hl => ?_)
          refine lv_iinc (v := nI (i + 1)) (lv' := [(4, .int (nI (i + 1))), (3, .int ((nI (ct (fun j => hs (U j) (nI t) && (Z j || !z)) i)) + 1)), (0, .ref (r 0)), (1, .int (nI t)), (2, .int (bI z))]) hx hb dX1_nightsOf_50 hl (k := 1) rfl (nI_1 _) (by decide) rfl (fun ls hl => ?_)
          refine lv_goto (tgt := 5) hx hb dX1_nightsOf_53 (by decide) ?_
          have e3 : ((nI (ct (fun j => hs (U j) (nI t) && (Z j || !z)) i)) + 1) = nI (ct (fun j => hs (U j) (nI t) && (Z j || !z)) (i + 1)) := by first | exact ct_t1 (by simp [c11, c26, c36, c40]) | exact ct_t (by simp [c11, c26, c36, c40]) | exact ct_f (by simp [c11, c26, c36, c40]) | exact ct_f0 (by simp [c11, c26, c36, c40])
          have hl := lv_sub (l' := [(4, .int (nI (i + 1))), (3, .int ((nI (ct (fun j => hs (U j) (nI t) && (Z j || !z)) i)) + 1)), (0, .ref (r 0)), (1, .int (nI t)), (2, .int (bI z))]) hl [0, 1, 2, 3, 4] rfl
          rw [e3] at hl
          exact ih ls hlt trivial hl
set_option maxHeartbeats 4000000 in
set_option maxRecDepth 100000 in
theorem g_M_cleared (l : Launch) {D : va_G} {cI cZ : ClassId} {r : Nat → Nat} {th : Int32} {tc nc ac : Nat} {ch : Int32} {U : Nat → Int32} {Z : Nat → Bool} {B L F : Nat → Int32} {H : Heap} (hP : va_P D vwCl (wM cI cZ r th tc nc ac ch U Z B L F) H) (htc : tc ≤ 8) (hnc : nc ≤ 40) (hac : ac ≤ 8) : Met l yX1_cleared wsX1_cleared ({ frames := 0, cells := 0, slots := 0, locals := 0 }) (va_Pc [.ref (r 0)] (rd D vwCl (tyA cI cZ) H)) (vp_Si (fun r => r = cld U Z nc)) 0 0 (fun _ => False) := by
  refine Met.ofW (cc := cX1_cleared) (maxL := 3) (ret := (some .int)) (by decide) rfl ?_
  intro p e s m args below meth c s₁ B9 hml hv
  obtain ⟨rfl, hH, hK⟩ := hv
  subst hH
  have hx := B9.exec
  have hb := B9.bytes
  have hr := B9.returns
  have hts := atoms_spec (ws := wsX1_cleared) B9.pre
  have hown : s.vm.findClass RX1 = some m.cls := findClass_of_methodNamed B9.named
  have hlocks := B9.notSynchronized
  have hin : ∀ w ∈ u_ws RX1 TX1 10, w ∈ wsX1_cleared := fun w h => List.mem_cons_of_mem _ (List.mem_append_right _ h)
  have hl := lv_entry ([.ref (r 0)]) (n := 3) (Nat.le_of_ble_eq_true rfl)
  rw [lg_entry_eq]
  generalize (lg_sl ([.ref (r 0)]) ++ List.replicate (3 - (lg_sl ([.ref (r 0)])).length) Slot.unset).toArray = ls at hl ⊢
  have hl : lv_has ls 3 [(0, .ref (r 0))] := hl
  refine lv_iconst (v := 0) hx hb dX1_cleared_0 (by decide) ?_
  refine lv_istore_n (lv' := [(1, .int 0), (0, .ref (r 0))]) hx hb dX1_cleared_1 rfl hl (by decide) rfl (fun ls hl => ?_)
  refine lv_iconst (v := 0) hx hb dX1_cleared_2 (by decide) ?_
  refine lv_istore_n (lv' := [(2, .int 0), (1, .int 0), (0, .ref (r 0))]) hx hb dX1_cleared_3 rfl hl (by decide) rfl (fun ls hl => ?_)
  refine w_loop (N := nc) (T := fun i => [(2, .int (nI i)), (1, .int (orf (fun j => !(Z j)) U i)), (0, .ref (r 0))]) (I := fun _ => True) 0 (Nat.zero_le _) trivial (lv_sub hl [0, 1, 2] rfl) (fun i ls hi hI hl ih => ?_)
  have hl : lv_has ls 3 [(2, .int (nI i)), (1, .int (orf (fun j => !(Z j)) U i)), (0, .ref (r 0))] := hl
  refine lv_iload_n hx hb dX1_cleared_4 rfl (lv_at hl 0 rfl) ?_
  refine lv_aload_n hx hb dX1_cleared_5 rfl (lv_at hl 2 rfl) ?_
  refine va_get (D := D) (ci := 1) (v := .int (nI nc)) (C := RX1) (T := TX1) (N := 10) hx hb hts hin hown hK hP 0 rfl rfl 2 (by decide) (hts (.fieldLink RX1 37 "SmudgedStarModel" "nights" "I") (List.mem_of_getElem? (i := 1) rfl)) (fun _ h9 => h9) rfl dX1_cleared_6 ?_
  refine lv_icmp_ge (tgt := 36) hx hb dX1_cleared_9 (by decide) (fun c9 => ?_) (fun c9 => ?_)
  · skip
    have hie : i = nc := gd_ge_t (by omega) hi c9
    rw [hie] at hl
    refine lv_iload_n hx hb dX1_cleared_36 rfl (lv_at hl 1 rfl) ?_
    exact W.iret (v := orf (fun j => !(Z j)) U nc) hx hb hr (fun t9 ht9 hW9 => ⟨orf (fun j => !(Z j)) U nc, rfl, rfl, ht9⟩) (fun _ h => absurd h List.not_mem_nil) dX1_cleared_37
  · skip
    have hlt : i < nc := gd_ge_f hi c9
    refine lv_aload_n hx hb dX1_cleared_12 rfl (lv_at hl 2 rfl) ?_
    refine va_get (D := D) (ci := 1) (v := .ref (r 2)) (C := RX1) (T := TX1) (N := 10) hx hb hts hin hown hK hP 0 rfl rfl 4 (by decide) (hts (.fieldLink RX1 13 "SmudgedStarModel" "smudged" "[Z") (List.mem_of_getElem? (i := 2) rfl)) (fun _ h9 => h9) rfl dX1_cleared_13 ?_
    refine lv_iload_n hx hb dX1_cleared_16 rfl (lv_at hl 0 rfl) ?_
    refine za_ld (f := Z) hx hb hK hP 2 1 rfl rfl (j := i) (by omega) (by decide) dX1_cleared_17 ?_
    refine lv_ifb_ne (tgt := 30) hx hb dX1_cleared_18 (by decide) (fun c18 => ?_) (fun c18 => ?_)
    · skip
      refine lv_iinc (v := nI (i + 1)) (lv' := [(2, .int (nI (i + 1))), (1, .int (orf (fun j => !(Z j)) U i)), (0, .ref (r 0))]) hx hb dX1_cleared_30 hl (k := 0) rfl (nI_1 _) (by decide) rfl (fun ls hl => ?_)
      refine lv_goto (tgt := 4) hx hb dX1_cleared_33 (by decide) ?_
      have e1 : (orf (fun j => !(Z j)) U i) = orf (fun j => !(Z j)) U (i + 1) := by first | exact orf_f (by simp [c9, c18]) | exact orf_t (by simp [c9, c18])
      have hl := lv_sub (l' := [(2, .int (nI (i + 1))), (1, .int (orf (fun j => !(Z j)) U i)), (0, .ref (r 0))]) hl [0, 1, 2] rfl
      rw [e1] at hl
      exact ih ls hlt trivial hl
    · skip
      refine lv_iload_n hx hb dX1_cleared_21 rfl (lv_at hl 1 rfl) ?_
      refine lv_aload_n hx hb dX1_cleared_22 rfl (lv_at hl 2 rfl) ?_
      refine va_get (D := D) (ci := 1) (v := .ref (r 1)) (C := RX1) (T := TX1) (N := 10) hx hb hts hin hown hK hP 0 rfl rfl 3 (by decide) (hts (.fieldLink RX1 9 "SmudgedStarModel" "used" "[I") (List.mem_of_getElem? (i := 3) rfl)) (fun _ h9 => h9) rfl dX1_cleared_23 ?_
      refine lv_iload_n hx hb dX1_cleared_26 rfl (lv_at hl 0 rfl) ?_
      refine ia_ld hx hb hK hP 1 0 rfl rfl (j := i) (by omega) (by decide) dX1_cleared_27 ?_
      refine lv_ior hx hb dX1_cleared_28 ?_
      refine lv_istore_n (lv' := [(1, .int ((orf (fun j => !(Z j)) U i) ||| (U i))), (2, .int (nI i)), (0, .ref (r 0))]) hx hb dX1_cleared_29 rfl hl (by decide) rfl (fun ls hl => ?_)
      refine lv_iinc (v := nI (i + 1)) (lv' := [(2, .int (nI (i + 1))), (1, .int ((orf (fun j => !(Z j)) U i) ||| (U i))), (0, .ref (r 0))]) hx hb dX1_cleared_30 hl (k := 1) rfl (nI_1 _) (by decide) rfl (fun ls hl => ?_)
      refine lv_goto (tgt := 4) hx hb dX1_cleared_33 (by decide) ?_
      have e1 : ((orf (fun j => !(Z j)) U i) ||| (U i)) = orf (fun j => !(Z j)) U (i + 1) := by first | exact orf_f (by simp [c9, c18]) | exact orf_t (by simp [c9, c18])
      have hl := lv_sub (l' := [(2, .int (nI (i + 1))), (1, .int ((orf (fun j => !(Z j)) U i) ||| (U i))), (0, .ref (r 0))]) hl [0, 1, 2] rfl
      rw [e1] at hl
      exact ih ls hlt trivial hl
set_option maxHeartbeats 4000000 in
set_option maxRecDepth 100000 in
theorem g_M_proved (l : Launch) {D : va_G} {cI cZ : ClassId} {r : Nat → Nat} {th : Int32} {tc nc ac : Nat} {ch : Int32} {U : Nat → Int32} {Z : Nat → Bool} {B L F : Nat → Int32} {H : Heap} (hP : va_P D vwCl (wM cI cZ r th tc nc ac ch U Z B L F) H) (htc : tc ≤ 8) (hnc : nc ≤ 40) (hac : ac ≤ 8) {t : Nat} : Met l yX1_proved wsX1_proved ({ frames := 1, cells := 0, slots := 0, locals := 22 }) (va_Pc [.ref (r 0), .int (nI t)] (rd D vwCl (tyA cI cZ) H)) (vp_Si (fun r => r = bI (anyb (fun j => Z j && hs (U j) (nI t) && decide (U j &&& ((cld U Z nc ^^^ (-1)) &&& (((1 : Int32) <<< (nI t &&& 31)) ^^^ (-1))) = 0)) nc))) 0 0 (fun _ => False) := by
  refine Met.ofW (cc := cX1_proved) (maxL := 4) (ret := (some .boolean)) (by decide) rfl ?_
  intro p e s m args below meth c s₁ B9 hml hv
  obtain ⟨rfl, hH, hK⟩ := hv
  subst hH
  have hx := B9.exec
  have hb := B9.bytes
  have hr := B9.returns
  have hts := atoms_spec (ws := wsX1_proved) B9.pre
  have hown : s.vm.findClass RX1 = some m.cls := findClass_of_methodNamed B9.named
  have hlocks := B9.notSynchronized
  have hin : ∀ w ∈ u_ws RX1 TX1 10, w ∈ wsX1_proved := fun w h => List.mem_cons_of_mem _ (List.mem_append_right _ h)
  have hl := lv_entry ([.ref (r 0), .int (nI t)]) (n := 4) (Nat.le_of_ble_eq_true rfl)
  rw [lg_entry_eq]
  generalize (lg_sl ([.ref (r 0), .int (nI t)]) ++ List.replicate (4 - (lg_sl ([.ref (r 0), .int (nI t)])).length) Slot.unset).toArray = ls at hl ⊢
  have hl : lv_has ls 4 [(0, .ref (r 0)), (1, .int (nI t))] := hl
  refine lv_aload_n hx hb dX1_proved_0 rfl (lv_at hl 0 rfl) ?_
  refine pcV_i (As := []) (rest := []) ⟨hx, hb, hml, hown, hts⟩ (g_M_cleared l hP htc hnc hac) (cwV 0 hts gX1_proved_X1_cleared rfl rfl rfl hdX1_cleared ⟨Nat.le_of_ble_eq_true rfl, Nat.le_of_ble_eq_true rfl⟩) (va_recv hK hP (ci := 1) (q0 := 0) rfl rfl) hK rfl hl.1 (Nat.le_of_ble_eq_true rfl) rfl dX1_proved_1 ⟨Nat.le_of_ble_eq_true rfl, Nat.le_of_ble_eq_true rfl⟩ ?_
  refine lv_iconst (v := (-1)) hx hb dX1_proved_4 (by decide) ?_
  refine lv_ixor hx hb dX1_proved_5 ?_
  refine lv_iconst (v := 1) hx hb dX1_proved_6 (by decide) ?_
  refine lv_iload_n hx hb dX1_proved_7 rfl (lv_at hl 1 rfl) ?_
  refine lv_ishl hx hb dX1_proved_8 ?_
  refine lv_iconst (v := (-1)) hx hb dX1_proved_9 (by decide) ?_
  refine lv_ixor hx hb dX1_proved_10 ?_
  refine lv_iand hx hb dX1_proved_11 ?_
  refine lv_istore_n (lv' := [(2, .int (((cld U Z nc) ^^^ (-1)) &&& (((1 : Int32) <<< ((nI t) &&& 31)) ^^^ (-1)))), (0, .ref (r 0)), (1, .int (nI t))]) hx hb dX1_proved_12 rfl hl (by decide) rfl (fun ls hl => ?_)
  refine lv_iconst (v := 0) hx hb dX1_proved_13 (by decide) ?_
  refine lv_istore_n (lv' := [(3, .int 0), (2, .int (((cld U Z nc) ^^^ (-1)) &&& (((1 : Int32) <<< ((nI t) &&& 31)) ^^^ (-1)))), (0, .ref (r 0)), (1, .int (nI t))]) hx hb dX1_proved_14 rfl hl (by decide) rfl (fun ls hl => ?_)
  refine w_loop (N := nc) (T := fun i => [(3, .int (nI i)), (2, .int (((cld U Z nc) ^^^ (-1)) &&& (((1 : Int32) <<< ((nI t) &&& 31)) ^^^ (-1)))), (0, .ref (r 0)), (1, .int (nI t))]) (I := fun i => anyb (fun j => Z j && hs (U j) (nI t) && decide (U j &&& ((cld U Z nc ^^^ (-1)) &&& (((1 : Int32) <<< (nI t &&& 31)) ^^^ (-1))) = 0)) i = false) 0 (Nat.zero_le _) rfl (lv_sub hl [0, 1, 2, 3] rfl) (fun i ls hi hI hl ih => ?_)
  have hI : anyb (fun j => Z j && hs (U j) (nI t) && decide (U j &&& ((cld U Z nc ^^^ (-1)) &&& (((1 : Int32) <<< (nI t &&& 31)) ^^^ (-1))) = 0)) i = false := hI
  have hl : lv_has ls 4 [(3, .int (nI i)), (2, .int (((cld U Z nc) ^^^ (-1)) &&& (((1 : Int32) <<< ((nI t) &&& 31)) ^^^ (-1)))), (0, .ref (r 0)), (1, .int (nI t))] := hl
  refine lv_iload_n hx hb dX1_proved_15 rfl (lv_at hl 0 rfl) ?_
  refine lv_aload_n hx hb dX1_proved_16 rfl (lv_at hl 2 rfl) ?_
  refine va_get (D := D) (ci := 1) (v := .int (nI nc)) (C := RX1) (T := TX1) (N := 10) hx hb hts hin hown hK hP 0 rfl rfl 2 (by decide) (hts (.fieldLink RX1 37 "SmudgedStarModel" "nights" "I") (List.mem_of_getElem? (i := 1) rfl)) (fun _ h9 => h9) rfl dX1_proved_17 ?_
  refine lv_icmp_ge (tgt := 64) hx hb dX1_proved_20 (by decide) (fun c20 => ?_) (fun c20 => ?_)
  · skip
    have hie : i = nc := gd_ge_t (by omega) hi c20
    rw [hie] at hl
    rw [hie] at hI
    refine lv_iconst (v := 0) hx hb dX1_proved_64 (by decide) ?_
    exact W.zret (v := 0) (ty := .boolean) hx hb hr (rfl) (fun t9 ht9 hW9 => ⟨0, rfl, (by rw [hI]; rfl), ht9⟩) (fun _ h => absurd h List.not_mem_nil) dX1_proved_65
  · skip
    have hlt : i < nc := gd_ge_f hi c20
    refine lv_aload_n hx hb dX1_proved_23 rfl (lv_at hl 2 rfl) ?_
    refine va_get (D := D) (ci := 1) (v := .ref (r 2)) (C := RX1) (T := TX1) (N := 10) hx hb hts hin hown hK hP 0 rfl rfl 4 (by decide) (hts (.fieldLink RX1 13 "SmudgedStarModel" "smudged" "[Z") (List.mem_of_getElem? (i := 2) rfl)) (fun _ h9 => h9) rfl dX1_proved_24 ?_
    refine lv_iload_n hx hb dX1_proved_27 rfl (lv_at hl 0 rfl) ?_
    refine za_ld (f := Z) hx hb hK hP 2 1 rfl rfl (j := i) (by omega) (by decide) dX1_proved_28 ?_
    refine lv_ifb_eq (tgt := 58) hx hb dX1_proved_29 (by decide) (fun c29 => ?_) (fun c29 => ?_)
    · skip
      refine lv_iinc (v := nI (i + 1)) (lv' := [(3, .int (nI (i + 1))), (2, .int (((cld U Z nc) ^^^ (-1)) &&& (((1 : Int32) <<< ((nI t) &&& 31)) ^^^ (-1)))), (0, .ref (r 0)), (1, .int (nI t))]) hx hb dX1_proved_58 hl (k := 0) rfl (nI_1 _) (by decide) rfl (fun ls hl => ?_)
      refine lv_goto (tgt := 15) hx hb dX1_proved_61 (by decide) ?_
      have hl := lv_sub (l' := [(3, .int (nI (i + 1))), (2, .int (((cld U Z nc) ^^^ (-1)) &&& (((1 : Int32) <<< ((nI t) &&& 31)) ^^^ (-1)))), (0, .ref (r 0)), (1, .int (nI t))]) hl [0, 1, 2, 3] rfl
      exact ih ls hlt (anyb_s hI (by first | (simp only [c29, Bool.false_and]; done) | (simp only [c29, c42, Bool.true_and, Bool.false_and]; done) | (simp only [c29, c42, decide_eq_false c53, Bool.true_and]; done))) hl
    · skip
      refine lv_aload_n hx hb dX1_proved_32 rfl (lv_at hl 2 rfl) ?_
      refine va_get (D := D) (ci := 1) (v := .ref (r 1)) (C := RX1) (T := TX1) (N := 10) hx hb hts hin hown hK hP 0 rfl rfl 3 (by decide) (hts (.fieldLink RX1 9 "SmudgedStarModel" "used" "[I") (List.mem_of_getElem? (i := 3) rfl)) (fun _ h9 => h9) rfl dX1_proved_33 ?_
      refine lv_iload_n hx hb dX1_proved_36 rfl (lv_at hl 0 rfl) ?_
      refine ia_ld hx hb hK hP 1 0 rfl rfl (j := i) (by omega) (by decide) dX1_proved_37 ?_
      refine lv_iload_n hx hb dX1_proved_38 rfl (lv_at hl 3 rfl) ?_
      refine pcS_i (As := [.int (U i), .int (nI t)]) (rest := []) ⟨hx, hb, hml, hown, hts⟩ (g_M_has l (U i) (nI t)) (va_cwS 2 hts gX1_proved_X1_has rfl rfl rfl hdX1_has ⟨Nat.le_of_ble_eq_true rfl, Nat.le_of_ble_eq_true rfl⟩) rfl hl.1 (Nat.le_of_ble_eq_true rfl) rfl dX1_proved_39 ⟨Nat.le_of_ble_eq_true rfl, Nat.le_of_ble_eq_true rfl⟩ ?_
      refine lv_ifb_eq (tgt := 58) hx hb dX1_proved_42 (by decide) (fun c42 => ?_) (fun c42 => ?_)
      · skip
        refine lv_iinc (v := nI (i + 1)) (lv' := [(3, .int (nI (i + 1))), (2, .int (((cld U Z nc) ^^^ (-1)) &&& (((1 : Int32) <<< ((nI t) &&& 31)) ^^^ (-1)))), (0, .ref (r 0)), (1, .int (nI t))]) hx hb dX1_proved_58 hl (k := 0) rfl (nI_1 _) (by decide) rfl (fun ls hl => ?_)
        refine lv_goto (tgt := 15) hx hb dX1_proved_61 (by decide) ?_
        have hl := lv_sub (l' := [(3, .int (nI (i + 1))), (2, .int (((cld U Z nc) ^^^ (-1)) &&& (((1 : Int32) <<< ((nI t) &&& 31)) ^^^ (-1)))), (0, .ref (r 0)), (1, .int (nI t))]) hl [0, 1, 2, 3] rfl
        exact ih ls hlt (anyb_s hI (by first | (simp only [c29, Bool.false_and]; done) | (simp only [c29, c42, Bool.true_and, Bool.false_and]; done) | (simp only [c29, c42, decide_eq_false c53, Bool.true_and]; done))) hl
      · skip
        refine lv_aload_n hx hb dX1_proved_45 rfl (lv_at hl 2 rfl) ?_
        refine va_get (D := D) (ci := 1) (v := .ref (r 1)) (C := RX1) (T := TX1) (N := 10) hx hb hts hin hown hK hP 0 rfl rfl 3 (by decide) (hts (.fieldLink RX1 9 "SmudgedStarModel" "used" "[I") (List.mem_of_getElem? (i := 3) rfl)) (fun _ h9 => h9) rfl dX1_proved_46 ?_
        refine lv_iload_n hx hb dX1_proved_49 rfl (lv_at hl 0 rfl) ?_
        refine ia_ld hx hb hK hP 1 0 rfl rfl (j := i) (by omega) (by decide) dX1_proved_50 ?_
        refine lv_iload_n hx hb dX1_proved_51 rfl (lv_at hl 1 rfl) ?_
        refine lv_iand hx hb dX1_proved_52 ?_
        refine lv_if_ne (tgt := 58) hx hb dX1_proved_53 (by decide) (fun c53 => ?_) (fun c53 => ?_)
        · skip
          refine lv_iinc (v := nI (i + 1)) (lv' := [(3, .int (nI (i + 1))), (2, .int (((cld U Z nc) ^^^ (-1)) &&& (((1 : Int32) <<< ((nI t) &&& 31)) ^^^ (-1)))), (0, .ref (r 0)), (1, .int (nI t))]) hx hb dX1_proved_58 hl (k := 0) rfl (nI_1 _) (by decide) rfl (fun ls hl => ?_)
          refine lv_goto (tgt := 15) hx hb dX1_proved_61 (by decide) ?_
          have hl := lv_sub (l' := [(3, .int (nI (i + 1))), (2, .int (((cld U Z nc) ^^^ (-1)) &&& (((1 : Int32) <<< ((nI t) &&& 31)) ^^^ (-1)))), (0, .ref (r 0)), (1, .int (nI t))]) hl [0, 1, 2, 3] rfl
          exact ih ls hlt (anyb_s hI (by first | (simp only [c29, Bool.false_and]; done) | (simp only [c29, c42, Bool.true_and, Bool.false_and]; done) | (simp only [c29, c42, decide_eq_false c53, Bool.true_and]; done))) hl
        · skip
          refine lv_iconst (v := 1) hx hb dX1_proved_56 (by decide) ?_
          exact W.zret (v := 1) (ty := .boolean) hx hb hr (rfl) (fun t9 ht9 hW9 => ⟨1, rfl, (by rw [anyb_of (p := (fun j => Z j && hs (U j) (nI t) && decide (U j &&& ((cld U Z nc ^^^ (-1)) &&& (((1 : Int32) <<< (nI t &&& 31)) ^^^ (-1))) = 0))) (i := i) (by simp only [c29, c42, decide_eq_true c53, Bool.true_and]) nc hlt]; rfl), ht9⟩) (fun _ h => absurd h List.not_mem_nil) dX1_proved_57
set_option maxHeartbeats 4000000 in
set_option maxRecDepth 100000 in
theorem g_M_smudgesNow (l : Launch) {D : va_G} {cI cZ : ClassId} {r : Nat → Nat} {th : Int32} {tc nc ac : Nat} {ch : Int32} {U : Nat → Int32} {Z : Nat → Bool} {B L F : Nat → Int32} {H : Heap} (hP : va_P D vwCl (wM cI cZ r th tc nc ac ch U Z B L F) H) (htc : tc ≤ 8) (hnc : nc ≤ 40) (hac : ac ≤ 8) : Met l yX1_smudgesNow wsX1_smudgesNow ({ frames := 0, cells := 0, slots := 0, locals := 0 }) (va_Pc [.ref (r 0)] (rd D vwCl (tyA cI cZ) H)) (vp_Si (fun r => r = nI (ct Z nc))) 0 0 (fun _ => False) := by
  refine Met.ofW (cc := cX1_smudgesNow) (maxL := 3) (ret := (some .int)) (by decide) rfl ?_
  intro p e s m args below meth c s₁ B9 hml hv
  obtain ⟨rfl, hH, hK⟩ := hv
  subst hH
  have hx := B9.exec
  have hb := B9.bytes
  have hr := B9.returns
  have hts := atoms_spec (ws := wsX1_smudgesNow) B9.pre
  have hown : s.vm.findClass RX1 = some m.cls := findClass_of_methodNamed B9.named
  have hlocks := B9.notSynchronized
  have hin : ∀ w ∈ u_ws RX1 TX1 10, w ∈ wsX1_smudgesNow := fun w h => List.mem_cons_of_mem _ (List.mem_append_right _ h)
  have hl := lv_entry ([.ref (r 0)]) (n := 3) (Nat.le_of_ble_eq_true rfl)
  rw [lg_entry_eq]
  generalize (lg_sl ([.ref (r 0)]) ++ List.replicate (3 - (lg_sl ([.ref (r 0)])).length) Slot.unset).toArray = ls at hl ⊢
  have hl : lv_has ls 3 [(0, .ref (r 0))] := hl
  refine lv_iconst (v := 0) hx hb dX1_smudgesNow_0 (by decide) ?_
  refine lv_istore_n (lv' := [(1, .int 0), (0, .ref (r 0))]) hx hb dX1_smudgesNow_1 rfl hl (by decide) rfl (fun ls hl => ?_)
  refine lv_iconst (v := 0) hx hb dX1_smudgesNow_2 (by decide) ?_
  refine lv_istore_n (lv' := [(2, .int 0), (1, .int 0), (0, .ref (r 0))]) hx hb dX1_smudgesNow_3 rfl hl (by decide) rfl (fun ls hl => ?_)
  refine w_loop (N := nc) (T := fun i => [(2, .int (nI i)), (1, .int (nI (ct Z i))), (0, .ref (r 0))]) (I := fun _ => True) 0 (Nat.zero_le _) trivial (lv_sub hl [0, 1, 2] rfl) (fun i ls hi hI hl ih => ?_)
  have hl : lv_has ls 3 [(2, .int (nI i)), (1, .int (nI (ct Z i))), (0, .ref (r 0))] := hl
  refine lv_iload_n hx hb dX1_smudgesNow_4 rfl (lv_at hl 0 rfl) ?_
  refine lv_aload_n hx hb dX1_smudgesNow_5 rfl (lv_at hl 2 rfl) ?_
  refine va_get (D := D) (ci := 1) (v := .int (nI nc)) (C := RX1) (T := TX1) (N := 10) hx hb hts hin hown hK hP 0 rfl rfl 2 (by decide) (hts (.fieldLink RX1 37 "SmudgedStarModel" "nights" "I") (List.mem_of_getElem? (i := 1) rfl)) (fun _ h9 => h9) rfl dX1_smudgesNow_6 ?_
  refine lv_icmp_ge (tgt := 35) hx hb dX1_smudgesNow_9 (by decide) (fun c9 => ?_) (fun c9 => ?_)
  · skip
    have hie : i = nc := gd_ge_t (by omega) hi c9
    rw [hie] at hl
    refine lv_iload_n hx hb dX1_smudgesNow_35 rfl (lv_at hl 1 rfl) ?_
    exact W.iret (v := nI (ct Z nc)) hx hb hr (fun t9 ht9 hW9 => ⟨nI (ct Z nc), rfl, rfl, ht9⟩) (fun _ h => absurd h List.not_mem_nil) dX1_smudgesNow_36
  · skip
    have hlt : i < nc := gd_ge_f hi c9
    refine lv_iload_n hx hb dX1_smudgesNow_12 rfl (lv_at hl 1 rfl) ?_
    refine lv_aload_n hx hb dX1_smudgesNow_13 rfl (lv_at hl 2 rfl) ?_
    refine va_get (D := D) (ci := 1) (v := .ref (r 2)) (C := RX1) (T := TX1) (N := 10) hx hb hts hin hown hK hP 0 rfl rfl 4 (by decide) (hts (.fieldLink RX1 13 "SmudgedStarModel" "smudged" "[Z") (List.mem_of_getElem? (i := 2) rfl)) (fun _ h9 => h9) rfl dX1_smudgesNow_14 ?_
    refine lv_iload_n hx hb dX1_smudgesNow_17 rfl (lv_at hl 0 rfl) ?_
    refine za_ld (f := Z) hx hb hK hP 2 1 rfl rfl (j := i) (by omega) (by decide) dX1_smudgesNow_18 ?_
    refine lv_ifb_eq (tgt := 26) hx hb dX1_smudgesNow_19 (by decide) (fun c19 => ?_) (fun c19 => ?_)
    · skip
      refine lv_iconst (v := 0) hx hb dX1_smudgesNow_26 (by decide) ?_
      refine lv_iadd hx hb dX1_smudgesNow_27 ?_
      refine lv_istore_n (lv' := [(1, .int ((nI (ct Z i)) + 0)), (2, .int (nI i)), (0, .ref (r 0))]) hx hb dX1_smudgesNow_28 rfl hl (by decide) rfl (fun ls hl => ?_)
      refine lv_iinc (v := nI (i + 1)) (lv' := [(2, .int (nI (i + 1))), (1, .int ((nI (ct Z i)) + 0)), (0, .ref (r 0))]) hx hb dX1_smudgesNow_29 hl (k := 1) rfl (nI_1 _) (by decide) rfl (fun ls hl => ?_)
      refine lv_goto (tgt := 4) hx hb dX1_smudgesNow_32 (by decide) ?_
      have e1 : ((nI (ct Z i)) + 0) = nI (ct Z (i + 1)) := by first | exact ct_t1 (by simp [c9, c19]) | exact ct_t (by simp [c9, c19]) | exact ct_f (by simp [c9, c19]) | exact ct_f0 (by simp [c9, c19])
      have hl := lv_sub (l' := [(2, .int (nI (i + 1))), (1, .int ((nI (ct Z i)) + 0)), (0, .ref (r 0))]) hl [0, 1, 2] rfl
      rw [e1] at hl
      exact ih ls hlt trivial hl
    · skip
      refine lv_iconst (v := 1) hx hb dX1_smudgesNow_22 (by decide) ?_
      refine lv_goto (tgt := 27) hx hb dX1_smudgesNow_23 (by decide) ?_
      refine lv_iadd hx hb dX1_smudgesNow_27 ?_
      refine lv_istore_n (lv' := [(1, .int ((nI (ct Z i)) + 1)), (2, .int (nI i)), (0, .ref (r 0))]) hx hb dX1_smudgesNow_28 rfl hl (by decide) rfl (fun ls hl => ?_)
      refine lv_iinc (v := nI (i + 1)) (lv' := [(2, .int (nI (i + 1))), (1, .int ((nI (ct Z i)) + 1)), (0, .ref (r 0))]) hx hb dX1_smudgesNow_29 hl (k := 1) rfl (nI_1 _) (by decide) rfl (fun ls hl => ?_)
      refine lv_goto (tgt := 4) hx hb dX1_smudgesNow_32 (by decide) ?_
      have e1 : ((nI (ct Z i)) + 1) = nI (ct Z (i + 1)) := by first | exact ct_t1 (by simp [c9, c19]) | exact ct_t (by simp [c9, c19]) | exact ct_f (by simp [c9, c19]) | exact ct_f0 (by simp [c9, c19])
      have hl := lv_sub (l' := [(2, .int (nI (i + 1))), (1, .int ((nI (ct Z i)) + 1)), (0, .ref (r 0))]) hl [0, 1, 2] rfl
      rw [e1] at hl
      exact ih ls hlt trivial hl
set_option maxHeartbeats 4000000 in
set_option maxRecDepth 100000 in
theorem g_M_votes (l : Launch) {D : va_G} {cI cZ : ClassId} {r : Nat → Nat} {th : Int32} {tc nc ac : Nat} {ch : Int32} {U : Nat → Int32} {Z : Nat → Bool} {B L F : Nat → Int32} {H : Heap} (hP : va_P D vwCl (wM cI cZ r th tc nc ac ch U Z B L F) H) (htc : tc ≤ 8) (hnc : nc ≤ 40) (hac : ac ≤ 8) {t : Nat} : Met l yX1_votes wsX1_votes ({ frames := 1, cells := 0, slots := 0, locals := 21 }) (va_Pc [.ref (r 0), .int (nI t)] (rd D vwCl (tyA cI cZ) H)) (vp_Si (fun r => r = nI (ct (fun a => hs (B a) (nI t)) ac))) 0 0 (fun _ => False) := by
  refine Met.ofW (cc := cX1_votes) (maxL := 4) (ret := (some .int)) (by decide) rfl ?_
  intro p e s m args below meth c s₁ B9 hml hv
  obtain ⟨rfl, hH, hK⟩ := hv
  subst hH
  have hx := B9.exec
  have hb := B9.bytes
  have hr := B9.returns
  have hts := atoms_spec (ws := wsX1_votes) B9.pre
  have hown : s.vm.findClass RX1 = some m.cls := findClass_of_methodNamed B9.named
  have hlocks := B9.notSynchronized
  have hin : ∀ w ∈ u_ws RX1 TX1 10, w ∈ wsX1_votes := fun w h => List.mem_cons_of_mem _ (List.mem_append_right _ h)
  have hl := lv_entry ([.ref (r 0), .int (nI t)]) (n := 4) (Nat.le_of_ble_eq_true rfl)
  rw [lg_entry_eq]
  generalize (lg_sl ([.ref (r 0), .int (nI t)]) ++ List.replicate (4 - (lg_sl ([.ref (r 0), .int (nI t)])).length) Slot.unset).toArray = ls at hl ⊢
  have hl : lv_has ls 4 [(0, .ref (r 0)), (1, .int (nI t))] := hl
  refine lv_iconst (v := 0) hx hb dX1_votes_0 (by decide) ?_
  refine lv_istore_n (lv' := [(2, .int 0), (0, .ref (r 0)), (1, .int (nI t))]) hx hb dX1_votes_1 rfl hl (by decide) rfl (fun ls hl => ?_)
  refine lv_iconst (v := 0) hx hb dX1_votes_2 (by decide) ?_
  refine lv_istore_n (lv' := [(3, .int 0), (2, .int 0), (0, .ref (r 0)), (1, .int (nI t))]) hx hb dX1_votes_3 rfl hl (by decide) rfl (fun ls hl => ?_)
  refine w_loop (N := ac) (T := fun i => [(3, .int (nI i)), (2, .int (nI (ct (fun a => hs (B a) (nI t)) i))), (0, .ref (r 0)), (1, .int (nI t))]) (I := fun _ => True) 0 (Nat.zero_le _) trivial (lv_sub hl [0, 1, 2, 3] rfl) (fun i ls hi hI hl ih => ?_)
  have hl : lv_has ls 4 [(3, .int (nI i)), (2, .int (nI (ct (fun a => hs (B a) (nI t)) i))), (0, .ref (r 0)), (1, .int (nI t))] := hl
  refine lv_iload_n hx hb dX1_votes_4 rfl (lv_at hl 0 rfl) ?_
  refine lv_aload_n hx hb dX1_votes_5 rfl (lv_at hl 2 rfl) ?_
  refine va_get (D := D) (ci := 1) (v := .int (nI ac)) (C := RX1) (T := TX1) (N := 10) hx hb hts hin hown hK hP 0 rfl rfl 5 (by decide) (hts (.fieldLink RX1 40 "SmudgedStarModel" "astronomers" "I") (List.mem_of_getElem? (i := 1) rfl)) (fun _ h9 => h9) rfl dX1_votes_6 ?_
  refine lv_icmp_ge (tgt := 39) hx hb dX1_votes_9 (by decide) (fun c9 => ?_) (fun c9 => ?_)
  · skip
    have hie : i = ac := gd_ge_t (by omega) hi c9
    rw [hie] at hl
    refine lv_iload_n hx hb dX1_votes_39 rfl (lv_at hl 1 rfl) ?_
    exact W.iret (v := nI (ct (fun a => hs (B a) (nI t)) ac)) hx hb hr (fun t9 ht9 hW9 => ⟨nI (ct (fun a => hs (B a) (nI t)) ac), rfl, rfl, ht9⟩) (fun _ h => absurd h List.not_mem_nil) dX1_votes_40
  · skip
    have hlt : i < ac := gd_ge_f hi c9
    refine lv_iload_n hx hb dX1_votes_12 rfl (lv_at hl 1 rfl) ?_
    refine lv_aload_n hx hb dX1_votes_13 rfl (lv_at hl 2 rfl) ?_
    refine va_get (D := D) (ci := 1) (v := .ref (r 5)) (C := RX1) (T := TX1) (N := 10) hx hb hts hin hown hK hP 0 rfl rfl 8 (by decide) (hts (.fieldLink RX1 23 "SmudgedStarModel" "blames" "[I") (List.mem_of_getElem? (i := 2) rfl)) (fun _ h9 => h9) rfl dX1_votes_14 ?_
    refine lv_iload_n hx hb dX1_votes_17 rfl (lv_at hl 0 rfl) ?_
    refine ia_ld hx hb hK hP 5 0 rfl rfl (j := i) (by omega) (by decide) dX1_votes_18 ?_
    refine lv_iload_n hx hb dX1_votes_19 rfl (lv_at hl 3 rfl) ?_
    refine pcS_i (As := [.int (B i), .int (nI t)]) (rest := [.int (nI (ct (fun a => hs (B a) (nI t)) i))]) ⟨hx, hb, hml, hown, hts⟩ (g_M_has l (B i) (nI t)) (va_cwS 2 hts gX1_votes_X1_has rfl rfl rfl hdX1_has ⟨Nat.le_of_ble_eq_true rfl, Nat.le_of_ble_eq_true rfl⟩) rfl hl.1 (Nat.le_of_ble_eq_true rfl) rfl dX1_votes_20 ⟨Nat.le_of_ble_eq_true rfl, Nat.le_of_ble_eq_true rfl⟩ ?_
    refine lv_ifb_eq (tgt := 30) hx hb dX1_votes_23 (by decide) (fun c23 => ?_) (fun c23 => ?_)
    · skip
      refine lv_iconst (v := 0) hx hb dX1_votes_30 (by decide) ?_
      refine lv_iadd hx hb dX1_votes_31 ?_
      refine lv_istore_n (lv' := [(2, .int ((nI (ct (fun a => hs (B a) (nI t)) i)) + 0)), (3, .int (nI i)), (0, .ref (r 0)), (1, .int (nI t))]) hx hb dX1_votes_32 rfl hl (by decide) rfl (fun ls hl => ?_)
      refine lv_iinc (v := nI (i + 1)) (lv' := [(3, .int (nI (i + 1))), (2, .int ((nI (ct (fun a => hs (B a) (nI t)) i)) + 0)), (0, .ref (r 0)), (1, .int (nI t))]) hx hb dX1_votes_33 hl (k := 1) rfl (nI_1 _) (by decide) rfl (fun ls hl => ?_)
      refine lv_goto (tgt := 4) hx hb dX1_votes_36 (by decide) ?_
      have e2 : ((nI (ct (fun a => hs (B a) (nI t)) i)) + 0) = nI (ct (fun a => hs (B a) (nI t)) (i + 1)) := by first | exact ct_t1 (by simp [c9, c23]) | exact ct_t (by simp [c9, c23]) | exact ct_f (by simp [c9, c23]) | exact ct_f0 (by simp [c9, c23])
      have hl := lv_sub (l' := [(3, .int (nI (i + 1))), (2, .int ((nI (ct (fun a => hs (B a) (nI t)) i)) + 0)), (0, .ref (r 0)), (1, .int (nI t))]) hl [0, 1, 2, 3] rfl
      rw [e2] at hl
      exact ih ls hlt trivial hl
    · skip
      refine lv_iconst (v := 1) hx hb dX1_votes_26 (by decide) ?_
      refine lv_goto (tgt := 31) hx hb dX1_votes_27 (by decide) ?_
      refine lv_iadd hx hb dX1_votes_31 ?_
      refine lv_istore_n (lv' := [(2, .int ((nI (ct (fun a => hs (B a) (nI t)) i)) + 1)), (3, .int (nI i)), (0, .ref (r 0)), (1, .int (nI t))]) hx hb dX1_votes_32 rfl hl (by decide) rfl (fun ls hl => ?_)
      refine lv_iinc (v := nI (i + 1)) (lv' := [(3, .int (nI (i + 1))), (2, .int ((nI (ct (fun a => hs (B a) (nI t)) i)) + 1)), (0, .ref (r 0)), (1, .int (nI t))]) hx hb dX1_votes_33 hl (k := 1) rfl (nI_1 _) (by decide) rfl (fun ls hl => ?_)
      refine lv_goto (tgt := 4) hx hb dX1_votes_36 (by decide) ?_
      have e2 : ((nI (ct (fun a => hs (B a) (nI t)) i)) + 1) = nI (ct (fun a => hs (B a) (nI t)) (i + 1)) := by first | exact ct_t1 (by simp [c9, c23]) | exact ct_t (by simp [c9, c23]) | exact ct_f (by simp [c9, c23]) | exact ct_f0 (by simp [c9, c23])
      have hl := lv_sub (l' := [(3, .int (nI (i + 1))), (2, .int ((nI (ct (fun a => hs (B a) (nI t)) i)) + 1)), (0, .ref (r 0)), (1, .int (nI t))]) hl [0, 1, 2, 3] rfl
      rw [e2] at hl
      exact ih ls hlt trivial hl
set_option maxHeartbeats 4000000 in
set_option maxRecDepth 100000 in
theorem g_M_voted (l : Launch) {D : va_G} {cI cZ : ClassId} {r : Nat → Nat} {th : Int32} {tc nc ac : Nat} {ch : Int32} {U : Nat → Int32} {Z : Nat → Bool} {B L F : Nat → Int32} {H : Heap} (hP : va_P D vwCl (wM cI cZ r th tc nc ac ch U Z B L F) H) (htc : tc ≤ 8) (hnc : nc ≤ 40) (hac : ac ≤ 8) : Met l yX1_voted wsX1_voted ({ frames := 2, cells := 0, slots := 0, locals := 44 }) (va_Pc [.ref (r 0)] (rd D vwCl (tyA cI cZ) H)) (vp_Si (fun r => r = orf (fun t => decide (¬ 2 * nI (ct (fun a => hs (B a) (nI t)) ac) ≤ nI ac)) (fun t => (1 : Int32) <<< (nI t &&& 31)) tc)) 0 0 (fun _ => False) := by
  refine Met.ofW (cc := cX1_voted) (maxL := 3) (ret := (some .int)) (by decide) rfl ?_
  intro p e s m args below meth c s₁ B9 hml hv
  obtain ⟨rfl, hH, hK⟩ := hv
  subst hH
  have hx := B9.exec
  have hb := B9.bytes
  have hr := B9.returns
  have hts := atoms_spec (ws := wsX1_voted) B9.pre
  have hown : s.vm.findClass RX1 = some m.cls := findClass_of_methodNamed B9.named
  have hlocks := B9.notSynchronized
  have hin : ∀ w ∈ u_ws RX1 TX1 10, w ∈ wsX1_voted := fun w h => List.mem_cons_of_mem _ (List.mem_append_right _ h)
  have hl := lv_entry ([.ref (r 0)]) (n := 3) (Nat.le_of_ble_eq_true rfl)
  rw [lg_entry_eq]
  generalize (lg_sl ([.ref (r 0)]) ++ List.replicate (3 - (lg_sl ([.ref (r 0)])).length) Slot.unset).toArray = ls at hl ⊢
  have hl : lv_has ls 3 [(0, .ref (r 0))] := hl
  refine lv_iconst (v := 0) hx hb dX1_voted_0 (by decide) ?_
  refine lv_istore_n (lv' := [(1, .int 0), (0, .ref (r 0))]) hx hb dX1_voted_1 rfl hl (by decide) rfl (fun ls hl => ?_)
  refine lv_iconst (v := 0) hx hb dX1_voted_2 (by decide) ?_
  refine lv_istore_n (lv' := [(2, .int 0), (1, .int 0), (0, .ref (r 0))]) hx hb dX1_voted_3 rfl hl (by decide) rfl (fun ls hl => ?_)
  refine w_loop (N := tc) (T := fun i => [(2, .int (nI i)), (1, .int (orf (fun t => decide (¬ 2 * nI (ct (fun a => hs (B a) (nI t)) ac) ≤ nI ac)) (fun t => (1 : Int32) <<< (nI t &&& 31)) i)), (0, .ref (r 0))]) (I := fun _ => True) 0 (Nat.zero_le _) trivial (lv_sub hl [0, 1, 2] rfl) (fun i ls hi hI hl ih => ?_)
  have hl : lv_has ls 3 [(2, .int (nI i)), (1, .int (orf (fun t => decide (¬ 2 * nI (ct (fun a => hs (B a) (nI t)) ac) ≤ nI ac)) (fun t => (1 : Int32) <<< (nI t &&& 31)) i)), (0, .ref (r 0))] := hl
  refine lv_iload_n hx hb dX1_voted_4 rfl (lv_at hl 0 rfl) ?_
  refine lv_aload_n hx hb dX1_voted_5 rfl (lv_at hl 2 rfl) ?_
  refine va_get (D := D) (ci := 1) (v := .int (nI tc)) (C := RX1) (T := TX1) (N := 10) hx hb hts hin hown hK hP 0 rfl rfl 1 (by decide) (hts (.fieldLink RX1 30 "SmudgedStarModel" "things" "I") (List.mem_of_getElem? (i := 1) rfl)) (fun _ h9 => h9) rfl dX1_voted_6 ?_
  refine lv_icmp_ge (tgt := 38) hx hb dX1_voted_9 (by decide) (fun c9 => ?_) (fun c9 => ?_)
  · skip
    have hie : i = tc := gd_ge_t (by omega) hi c9
    rw [hie] at hl
    refine lv_iload_n hx hb dX1_voted_38 rfl (lv_at hl 1 rfl) ?_
    exact W.iret (v := orf (fun t => decide (¬ 2 * nI (ct (fun a => hs (B a) (nI t)) ac) ≤ nI ac)) (fun t => (1 : Int32) <<< (nI t &&& 31)) tc) hx hb hr (fun t9 ht9 hW9 => ⟨orf (fun t => decide (¬ 2 * nI (ct (fun a => hs (B a) (nI t)) ac) ≤ nI ac)) (fun t => (1 : Int32) <<< (nI t &&& 31)) tc, rfl, rfl, ht9⟩) (fun _ h => absurd h List.not_mem_nil) dX1_voted_39
  · skip
    have hlt : i < tc := gd_ge_f hi c9
    refine lv_iconst (v := 2) hx hb dX1_voted_12 (by decide) ?_
    refine lv_aload_n hx hb dX1_voted_13 rfl (lv_at hl 2 rfl) ?_
    refine lv_iload_n hx hb dX1_voted_14 rfl (lv_at hl 0 rfl) ?_
    refine pcV_i (As := [.int (nI i)]) (rest := [.int 2]) ⟨hx, hb, hml, hown, hts⟩ (g_M_votes l hP htc hnc hac (t := i)) (cwV 1 hts gX1_voted_X1_votes rfl rfl rfl hdX1_votes ⟨Nat.le_of_ble_eq_true rfl, Nat.le_of_ble_eq_true rfl⟩) (va_recv hK hP (ci := 1) (q0 := 0) rfl rfl) hK rfl hl.1 (Nat.le_of_ble_eq_true rfl) rfl dX1_voted_15 ⟨Nat.le_of_ble_eq_true rfl, Nat.le_of_ble_eq_true rfl⟩ ?_
    refine lv_imul hx hb dX1_voted_18 ?_
    refine lv_aload_n hx hb dX1_voted_19 rfl (lv_at hl 2 rfl) ?_
    refine va_get (D := D) (ci := 1) (v := .int (nI ac)) (C := RX1) (T := TX1) (N := 10) hx hb hts hin hown hK hP 0 rfl rfl 5 (by decide) (hts (.fieldLink RX1 40 "SmudgedStarModel" "astronomers" "I") (List.mem_of_getElem? (i := 2) rfl)) (fun _ h9 => h9) rfl dX1_voted_20 ?_
    refine lv_icmp_le (tgt := 32) hx hb dX1_voted_23 (by decide) (fun c23 => ?_) (fun c23 => ?_)
    · skip
      refine lv_iinc (v := nI (i + 1)) (lv' := [(2, .int (nI (i + 1))), (1, .int (orf (fun t => decide (¬ 2 * nI (ct (fun a => hs (B a) (nI t)) ac) ≤ nI ac)) (fun t => (1 : Int32) <<< (nI t &&& 31)) i)), (0, .ref (r 0))]) hx hb dX1_voted_32 hl (k := 0) rfl (nI_1 _) (by decide) rfl (fun ls hl => ?_)
      refine lv_goto (tgt := 4) hx hb dX1_voted_35 (by decide) ?_
      have e1 : (orf (fun t => decide (¬ 2 * nI (ct (fun a => hs (B a) (nI t)) ac) ≤ nI ac)) (fun t => (1 : Int32) <<< (nI t &&& 31)) i) = orf (fun t => decide (¬ 2 * nI (ct (fun a => hs (B a) (nI t)) ac) ≤ nI ac)) (fun t => (1 : Int32) <<< (nI t &&& 31)) (i + 1) := by first | exact orf_f (decide_eq_false (fun w9 => w9 c23)) | exact orf_t (decide_eq_true c23)
      have hl := lv_sub (l' := [(2, .int (nI (i + 1))), (1, .int (orf (fun t => decide (¬ 2 * nI (ct (fun a => hs (B a) (nI t)) ac) ≤ nI ac)) (fun t => (1 : Int32) <<< (nI t &&& 31)) i)), (0, .ref (r 0))]) hl [0, 1, 2] rfl
      rw [e1] at hl
      exact ih ls hlt trivial hl
    · skip
      refine lv_iload_n hx hb dX1_voted_26 rfl (lv_at hl 1 rfl) ?_
      refine lv_iconst (v := 1) hx hb dX1_voted_27 (by decide) ?_
      refine lv_iload_n hx hb dX1_voted_28 rfl (lv_at hl 0 rfl) ?_
      refine lv_ishl hx hb dX1_voted_29 ?_
      refine lv_ior hx hb dX1_voted_30 ?_
      refine lv_istore_n (lv' := [(1, .int ((orf (fun t => decide (¬ 2 * nI (ct (fun a => hs (B a) (nI t)) ac) ≤ nI ac)) (fun t => (1 : Int32) <<< (nI t &&& 31)) i) ||| ((1 : Int32) <<< ((nI i) &&& 31)))), (2, .int (nI i)), (0, .ref (r 0))]) hx hb dX1_voted_31 rfl hl (by decide) rfl (fun ls hl => ?_)
      refine lv_iinc (v := nI (i + 1)) (lv' := [(2, .int (nI (i + 1))), (1, .int ((orf (fun t => decide (¬ 2 * nI (ct (fun a => hs (B a) (nI t)) ac) ≤ nI ac)) (fun t => (1 : Int32) <<< (nI t &&& 31)) i) ||| ((1 : Int32) <<< ((nI i) &&& 31)))), (0, .ref (r 0))]) hx hb dX1_voted_32 hl (k := 1) rfl (nI_1 _) (by decide) rfl (fun ls hl => ?_)
      refine lv_goto (tgt := 4) hx hb dX1_voted_35 (by decide) ?_
      have e1 : ((orf (fun t => decide (¬ 2 * nI (ct (fun a => hs (B a) (nI t)) ac) ≤ nI ac)) (fun t => (1 : Int32) <<< (nI t &&& 31)) i) ||| ((1 : Int32) <<< ((nI i) &&& 31))) = orf (fun t => decide (¬ 2 * nI (ct (fun a => hs (B a) (nI t)) ac) ≤ nI ac)) (fun t => (1 : Int32) <<< (nI t &&& 31)) (i + 1) := by first | exact orf_f (decide_eq_false (fun w9 => w9 c23)) | exact orf_t (decide_eq_true c23)
      have hl := lv_sub (l' := [(2, .int (nI (i + 1))), (1, .int ((orf (fun t => decide (¬ 2 * nI (ct (fun a => hs (B a) (nI t)) ac) ≤ nI ac)) (fun t => (1 : Int32) <<< (nI t &&& 31)) i) ||| ((1 : Int32) <<< ((nI i) &&& 31)))), (0, .ref (r 0))]) hl [0, 1, 2] rfl
      rw [e1] at hl
      exact ih ls hlt trivial hl
