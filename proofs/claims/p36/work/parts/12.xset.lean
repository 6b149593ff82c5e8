/-! SmudgedStar: contracts of its methods -/
set_option maxHeartbeats 4000000 in
set_option maxRecDepth 100000 in
theorem g_X_explanations (l : Launch) {D : va_G} {cI cZ : ClassId} {q : Nat → Nat} {tc nc ac : Nat} {ch : Int32} {U : Nat → Int32} {Z : Nat → Bool} {B L F : Nat → Int32} {H : Heap} (hP : va_P D vwCl (wX cI cZ q tc nc ac ch U Z B L F) H) (htc : tc ≤ 8) (hnc : nc ≤ 40) (hac : ac ≤ 8) : Met l yX0_explanations wsX0_explanations ({ frames := 1, cells := 0, slots := 0, locals := 21 }) (va_Pc [.ref (q 0)] (rd D vwCl (tyA cI cZ) H)) (vp_Si (fun r => r = nI (ex U Z nc (pw tc)))) 0 0 (fun _ => False) := by
  refine Met.ofW (cc := cX0_explanations) (maxL := 3) (ret := (some .int)) (by decide) rfl ?_
  intro p e s m args below meth c s₁ B9 hml hv
  obtain ⟨rfl, hH, hK⟩ := hv
  subst hH
  have hx := B9.exec
  have hb := B9.bytes
  have hr := B9.returns
  have hts := atoms_spec (ws := wsX0_explanations) B9.pre
  have hown : s.vm.findClass RX0 = some m.cls := findClass_of_methodNamed B9.named
  have hlocks := B9.notSynchronized
  have hl := lv_entry ([.ref (q 0)]) (n := 3) (Nat.le_of_ble_eq_true rfl)
  rw [lg_entry_eq]
  generalize (lg_sl ([.ref (q 0)]) ++ List.replicate (3 - (lg_sl ([.ref (q 0)])).length) Slot.unset).toArray = ls at hl ⊢
  have hl : lv_has ls 3 [(0, .ref (q 0))] := hl
  have hpw := pw_in htc
  refine lv_iconst (v := 0) hx hb dX0_explanations_0 (by decide) ?_
  refine lv_istore_n (lv' := [(1, .int 0), (0, .ref (q 0))]) hx hb dX0_explanations_1 rfl hl (by decide) rfl (fun ls hl => ?_)
  refine lv_iconst (v := 0) hx hb dX0_explanations_2 (by decide) ?_
  refine lv_istore_n (lv' := [(2, .int 0), (1, .int 0), (0, .ref (q 0))]) hx hb dX0_explanations_3 rfl hl (by decide) rfl (fun ls hl => ?_)
  refine w_loop (N := pw tc) (T := fun i => [(2, .int (nI i)), (1, .int (nI (ct (fun k => zz U Z nc k) i))), (0, .ref (q 0))]) (I := fun _ => True) 0 (Nat.zero_le _) trivial (lv_sub hl [0, 1, 2] rfl) (fun i ls hi hI hl ih => ?_)
  have hl : lv_has ls 3 [(2, .int (nI i)), (1, .int (nI (ct (fun k => zz U Z nc k) i))), (0, .ref (q 0))] := hl
  refine lv_iload_n hx hb dX0_explanations_4 rfl (lv_at hl 0 rfl) ?_
  refine lv_aload_n hx hb dX0_explanations_5 rfl (lv_at hl 2 rfl) ?_
  refine pcV_i (As := []) (rest := [.int (nI i)]) ⟨hx, hb, hml, hown, hts⟩ (g_X_allThings l hP htc hnc hac) (cwV 0 hts gX0_explanations_X0_allThings rfl rfl rfl hdX0_allThings ⟨Nat.le_of_ble_eq_true rfl, Nat.le_of_ble_eq_true rfl⟩) (va_recv hK hP (ci := 0) (q0 := 0) rfl rfl) hK rfl hl.1 (Nat.le_of_ble_eq_true rfl) rfl dX0_explanations_6 ⟨Nat.le_of_ble_eq_true rfl, Nat.le_of_ble_eq_true rfl⟩ ?_
  refine lv_icmp_gt (tgt := 29) hx hb dX0_explanations_9 (by decide) (fun c9 => ?_) (fun c9 => ?_)
  · skip
    have hie : i = pw tc := gd_gt_t htc hi c9
    rw [hie] at hl
    refine lv_iload_n hx hb dX0_explanations_29 rfl (lv_at hl 1 rfl) ?_
    exact W.iret (v := nI (ct (fun k => zz U Z nc k) (pw tc))) hx hb hr (fun t9 ht9 hW9 => ⟨nI (ct (fun k => zz U Z nc k) (pw tc)), rfl, rfl, ht9⟩) (fun _ h => absurd h List.not_mem_nil) dX0_explanations_30
  · skip
    have hlt : i < pw tc := gd_gt_f htc hi c9
    refine lv_aload_n hx hb dX0_explanations_12 rfl (lv_at hl 2 rfl) ?_
    refine lv_iload_n hx hb dX0_explanations_13 rfl (lv_at hl 0 rfl) ?_
    refine pcV_i (As := [.int (nI i)]) (rest := []) ⟨hx, hb, hml, hown, hts⟩ (g_X_missesOf l hP htc hnc hac (k := i) (by omega : i < 256)) (cwV 1 hts gX0_explanations_X0_missesOf rfl rfl rfl hdX0_missesOf ⟨Nat.le_of_ble_eq_true rfl, Nat.le_of_ble_eq_true rfl⟩) (va_recv hK hP (ci := 0) (q0 := 0) rfl rfl) hK rfl hl.1 (Nat.le_of_ble_eq_true rfl) rfl dX0_explanations_14 ⟨Nat.le_of_ble_eq_true rfl, Nat.le_of_ble_eq_true rfl⟩ ?_
    refine lv_if_ne (tgt := 23) hx hb dX0_explanations_17 (by decide) (fun c17 => ?_) (fun c17 => ?_)
    · skip
      refine lv_iinc (v := nI (i + 1)) (lv' := [(2, .int (nI (i + 1))), (1, .int (nI (ct (fun k => zz U Z nc k) i))), (0, .ref (q 0))]) hx hb dX0_explanations_23 hl (k := 0) rfl (nI_1 _) (by decide) rfl (fun ls hl => ?_)
      refine lv_goto (tgt := 4) hx hb dX0_explanations_26 (by decide) ?_
      have e1 : (nI (ct (fun k => zz U Z nc k) i)) = nI (ct (fun k => zz U Z nc k) (i + 1)) := by first | exact ct_t1 (by simp [zz_t, zz_f, c9, c17]) | exact ct_t (by simp [zz_t, zz_f, c9, c17]) | exact ct_f (by simp [zz_t, zz_f, c9, c17])
      have hl := lv_sub (l' := [(2, .int (nI (i + 1))), (1, .int (nI (ct (fun k => zz U Z nc k) i))), (0, .ref (q 0))]) hl [0, 1, 2] rfl
      rw [e1] at hl
      exact ih ls hlt trivial hl
    · skip
      refine lv_iinc (v := nI ((ct (fun k => zz U Z nc k) i) + 1)) (lv' := [(1, .int (nI ((ct (fun k => zz U Z nc k) i) + 1))), (2, .int (nI i)), (0, .ref (q 0))]) hx hb dX0_explanations_20 hl (k := 1) rfl (nI_1 _) (by decide) rfl (fun ls hl => ?_)
      refine lv_iinc (v := nI (i + 1)) (lv' := [(2, .int (nI (i + 1))), (1, .int (nI ((ct (fun k => zz U Z nc k) i) + 1))), (0, .ref (q 0))]) hx hb dX0_explanations_23 hl (k := 1) rfl (nI_1 _) (by decide) rfl (fun ls hl => ?_)
      refine lv_goto (tgt := 4) hx hb dX0_explanations_26 (by decide) ?_
      have e1 : (nI ((ct (fun k => zz U Z nc k) i) + 1)) = nI (ct (fun k => zz U Z nc k) (i + 1)) := by first | exact ct_t1 (by simp [zz_t, zz_f, c9, c17]) | exact ct_t (by simp [zz_t, zz_f, c9, c17]) | exact ct_f (by simp [zz_t, zz_f, c9, c17])
      have hl := lv_sub (l' := [(2, .int (nI (i + 1))), (1, .int (nI ((ct (fun k => zz U Z nc k) i) + 1))), (0, .ref (q 0))]) hl [0, 1, 2] rfl
      rw [e1] at hl
      exact ih ls hlt trivial hl
set_option maxHeartbeats 4000000 in
set_option maxRecDepth 100000 in
theorem g_X_explanationsMeeting (l : Launch) {D : va_G} {cI cZ : ClassId} {q : Nat → Nat} {tc nc ac : Nat} {ch : Int32} {U : Nat → Int32} {Z : Nat → Bool} {B L F : Nat → Int32} {H : Heap} (hP : va_P D vwCl (wX cI cZ q tc nc ac ch U Z B L F) H) (htc : tc ≤ 8) (hnc : nc ≤ 40) (hac : ac ≤ 8) {u : Int32} : Met l yX0_explanationsMeeting wsX0_explanationsMeeting ({ frames := 1, cells := 0, slots := 0, locals := 21 }) (va_Pc [.ref (q 0), .int u] (rd D vwCl (tyA cI cZ) H)) (vp_Si (fun r => r = nI (mt U Z nc (pw tc) u))) 0 0 (fun _ => False) := by
  refine Met.ofW (cc := cX0_explanationsMeeting) (maxL := 4) (ret := (some .int)) (by decide) rfl ?_
  intro p e s m args below meth c s₁ B9 hml hv
  obtain ⟨rfl, hH, hK⟩ := hv
  subst hH
  have hx := B9.exec
  have hb := B9.bytes
  have hr := B9.returns
  have hts := atoms_spec (ws := wsX0_explanationsMeeting) B9.pre
  have hown : s.vm.findClass RX0 = some m.cls := findClass_of_methodNamed B9.named
  have hlocks := B9.notSynchronized
  have hl := lv_entry ([.ref (q 0), .int u]) (n := 4) (Nat.le_of_ble_eq_true rfl)
  rw [lg_entry_eq]
  generalize (lg_sl ([.ref (q 0), .int u]) ++ List.replicate (4 - (lg_sl ([.ref (q 0), .int u])).length) Slot.unset).toArray = ls at hl ⊢
  have hl : lv_has ls 4 [(0, .ref (q 0)), (1, .int u)] := hl
  have hpw := pw_in htc
  refine lv_iconst (v := 0) hx hb dX0_explanationsMeeting_0 (by decide) ?_
  refine lv_istore_n (lv' := [(2, .int 0), (0, .ref (q 0)), (1, .int u)]) hx hb dX0_explanationsMeeting_1 rfl hl (by decide) rfl (fun ls hl => ?_)
  refine lv_iconst (v := 0) hx hb dX0_explanationsMeeting_2 (by decide) ?_
  refine lv_istore_n (lv' := [(3, .int 0), (2, .int 0), (0, .ref (q 0)), (1, .int u)]) hx hb dX0_explanationsMeeting_3 rfl hl (by decide) rfl (fun ls hl => ?_)
  refine w_loop (N := pw tc) (T := fun i => [(3, .int (nI i)), (2, .int (nI (ct (fun k => decide (¬ nI k &&& u = 0) && zz U Z nc k) i))), (0, .ref (q 0)), (1, .int u)]) (I := fun _ => True) 0 (Nat.zero_le _) trivial (lv_sub hl [0, 1, 2, 3] rfl) (fun i ls hi hI hl ih => ?_)
  have hl : lv_has ls 4 [(3, .int (nI i)), (2, .int (nI (ct (fun k => decide (¬ nI k &&& u = 0) && zz U Z nc k) i))), (0, .ref (q 0)), (1, .int u)] := hl
  refine lv_iload_n hx hb dX0_explanationsMeeting_4 rfl (lv_at hl 0 rfl) ?_
  refine lv_aload_n hx hb dX0_explanationsMeeting_5 rfl (lv_at hl 2 rfl) ?_
  refine pcV_i (As := []) (rest := [.int (nI i)]) ⟨hx, hb, hml, hown, hts⟩ (g_X_allThings l hP htc hnc hac) (cwV 0 hts gX0_explanationsMeeting_X0_allThings rfl rfl rfl hdX0_allThings ⟨Nat.le_of_ble_eq_true rfl, Nat.le_of_ble_eq_true rfl⟩) (va_recv hK hP (ci := 0) (q0 := 0) rfl rfl) hK rfl hl.1 (Nat.le_of_ble_eq_true rfl) rfl dX0_explanationsMeeting_6 ⟨Nat.le_of_ble_eq_true rfl, Nat.le_of_ble_eq_true rfl⟩ ?_
  refine lv_icmp_gt (tgt := 35) hx hb dX0_explanationsMeeting_9 (by decide) (fun c9 => ?_) (fun c9 => ?_)
  · skip
    have hie : i = pw tc := gd_gt_t htc hi c9
    rw [hie] at hl
    refine lv_iload_n hx hb dX0_explanationsMeeting_35 rfl (lv_at hl 1 rfl) ?_
    exact W.iret (v := nI (ct (fun k => decide (¬ nI k &&& u = 0) && zz U Z nc k) (pw tc))) hx hb hr (fun t9 ht9 hW9 => ⟨nI (ct (fun k => decide (¬ nI k &&& u = 0) && zz U Z nc k) (pw tc)), rfl, rfl, ht9⟩) (fun _ h => absurd h List.not_mem_nil) dX0_explanationsMeeting_36
  · skip
    have hlt : i < pw tc := gd_gt_f htc hi c9
    refine lv_iload_n hx hb dX0_explanationsMeeting_12 rfl (lv_at hl 0 rfl) ?_
    refine lv_iload_n hx hb dX0_explanationsMeeting_13 rfl (lv_at hl 3 rfl) ?_
    refine lv_iand hx hb dX0_explanationsMeeting_14 ?_
    refine lv_if_eq (tgt := 29) hx hb dX0_explanationsMeeting_15 (by decide) (fun c15 => ?_) (fun c15 => ?_)
    · skip
      refine lv_iinc (v := nI (i + 1)) (lv' := [(3, .int (nI (i + 1))), (2, .int (nI (ct (fun k => decide (¬ nI k &&& u = 0) && zz U Z nc k) i))), (0, .ref (q 0)), (1, .int u)]) hx hb dX0_explanationsMeeting_29 hl (k := 0) rfl (nI_1 _) (by decide) rfl (fun ls hl => ?_)
      refine lv_goto (tgt := 4) hx hb dX0_explanationsMeeting_32 (by decide) ?_
      have e2 : (nI (ct (fun k => decide (¬ nI k &&& u = 0) && zz U Z nc k) i)) = nI (ct (fun k => decide (¬ nI k &&& u = 0) && zz U Z nc k) (i + 1)) := by first | exact ct_t1 (by simp [zz_t, zz_f, c9, c15]) | exact ct_t (by simp [zz_t, zz_f, c9, c15]) | exact ct_f (by simp [zz_t, zz_f, c9, c15])
      have hl := lv_sub (l' := [(3, .int (nI (i + 1))), (2, .int (nI (ct (fun k => decide (¬ nI k &&& u = 0) && zz U Z nc k) i))), (0, .ref (q 0)), (1, .int u)]) hl [0, 1, 2, 3] rfl
      rw [e2] at hl
      exact ih ls hlt trivial hl
    · skip
      refine lv_aload_n hx hb dX0_explanationsMeeting_18 rfl (lv_at hl 2 rfl) ?_
      refine lv_iload_n hx hb dX0_explanationsMeeting_19 rfl (lv_at hl 0 rfl) ?_
      refine pcV_i (As := [.int (nI i)]) (rest := []) ⟨hx, hb, hml, hown, hts⟩ (g_X_missesOf l hP htc hnc hac (k := i) (by omega : i < 256)) (cwV 1 hts gX0_explanationsMeeting_X0_missesOf rfl rfl rfl hdX0_missesOf ⟨Nat.le_of_ble_eq_true rfl, Nat.le_of_ble_eq_true rfl⟩) (va_recv hK hP (ci := 0) (q0 := 0) rfl rfl) hK rfl hl.1 (Nat.le_of_ble_eq_true rfl) rfl dX0_explanationsMeeting_20 ⟨Nat.le_of_ble_eq_true rfl, Nat.le_of_ble_eq_true rfl⟩ ?_
      refine lv_if_ne (tgt := 29) hx hb dX0_explanationsMeeting_23 (by decide) (fun c23 => ?_) (fun c23 => ?_)
      · skip
        refine lv_iinc (v := nI (i + 1)) (lv' := [(3, .int (nI (i + 1))), (2, .int (nI (ct (fun k => decide (¬ nI k &&& u = 0) && zz U Z nc k) i))), (0, .ref (q 0)), (1, .int u)]) hx hb dX0_explanationsMeeting_29 hl (k := 0) rfl (nI_1 _) (by decide) rfl (fun ls hl => ?_)
        refine lv_goto (tgt := 4) hx hb dX0_explanationsMeeting_32 (by decide) ?_
        have e2 : (nI (ct (fun k => decide (¬ nI k &&& u = 0) && zz U Z nc k) i)) = nI (ct (fun k => decide (¬ nI k &&& u = 0) && zz U Z nc k) (i + 1)) := by first | exact ct_t1 (by simp [zz_t, zz_f, c9, c15, c23]) | exact ct_t (by simp [zz_t, zz_f, c9, c15, c23]) | exact ct_f (by simp [zz_t, zz_f, c9, c15, c23])
        have hl := lv_sub (l' := [(3, .int (nI (i + 1))), (2, .int (nI (ct (fun k => decide (¬ nI k &&& u = 0) && zz U Z nc k) i))), (0, .ref (q 0)), (1, .int u)]) hl [0, 1, 2, 3] rfl
        rw [e2] at hl
        exact ih ls hlt trivial hl
      · skip
        refine lv_iinc (v := nI ((ct (fun k => decide (¬ nI k &&& u = 0) && zz U Z nc k) i) + 1)) (lv' := [(2, .int (nI ((ct (fun k => decide (¬ nI k &&& u = 0) && zz U Z nc k) i) + 1))), (3, .int (nI i)), (0, .ref (q 0)), (1, .int u)]) hx hb dX0_explanationsMeeting_26 hl (k := 1) rfl (nI_1 _) (by decide) rfl (fun ls hl => ?_)
        refine lv_iinc (v := nI (i + 1)) (lv' := [(3, .int (nI (i + 1))), (2, .int (nI ((ct (fun k => decide (¬ nI k &&& u = 0) && zz U Z nc k) i) + 1))), (0, .ref (q 0)), (1, .int u)]) hx hb dX0_explanationsMeeting_29 hl (k := 1) rfl (nI_1 _) (by decide) rfl (fun ls hl => ?_)
        refine lv_goto (tgt := 4) hx hb dX0_explanationsMeeting_32 (by decide) ?_
        have e2 : (nI ((ct (fun k => decide (¬ nI k &&& u = 0) && zz U Z nc k) i) + 1)) = nI (ct (fun k => decide (¬ nI k &&& u = 0) && zz U Z nc k) (i + 1)) := by first | exact ct_t1 (by simp [zz_t, zz_f, c9, c15, c23]) | exact ct_t (by simp [zz_t, zz_f, c9, c15, c23]) | exact ct_f (by simp [zz_t, zz_f, c9, c15, c23])
        have hl := lv_sub (l' := [(3, .int (nI (i + 1))), (2, .int (nI ((ct (fun k => decide (¬ nI k &&& u = 0) && zz U Z nc k) i) + 1))), (0, .ref (q 0)), (1, .int u)]) hl [0, 1, 2, 3] rfl
        rw [e2] at hl
        exact ih ls hlt trivial hl
set_option maxHeartbeats 4000000 in
set_option maxRecDepth 100000 in
theorem g_X_setsWith (l : Launch) {D : va_G} {cI cZ : ClassId} {q : Nat → Nat} {tc nc ac : Nat} {ch : Int32} {U : Nat → Int32} {Z : Nat → Bool} {B L F : Nat → Int32} {H : Heap} (hP : va_P D vwCl (wX cI cZ q tc nc ac ch U Z B L F) H) (htc : tc ≤ 8) (hnc : nc ≤ 40) (hac : ac ≤ 8) {t : Nat} (ht : t < tc) : Met l yX0_setsWith wsX0_setsWith ({ frames := 2, cells := 0, slots := 0, locals := 44 }) (va_Pc [.ref (q 0), .int (nI t)] (rd D vwCl (tyA cI cZ) H)) (vp_Si (fun r => r = nI (mt U Z nc (pw tc) ((1 : Int32) <<< (nI t &&& 31))))) 0 0 (fun _ => False) := by
  refine Met.ofW (cc := cX0_setsWith) (maxL := 2) (ret := (some .int)) (by decide) rfl ?_
  intro p e s m args below meth c s₁ B9 hml hv
  obtain ⟨rfl, hH, hK⟩ := hv
  subst hH
  have hx := B9.exec
  have hb := B9.bytes
  have hr := B9.returns
  have hts := atoms_spec (ws := wsX0_setsWith) B9.pre
  have hown : s.vm.findClass RX0 = some m.cls := findClass_of_methodNamed B9.named
  have hlocks := B9.notSynchronized
  have hl := lv_entry ([.ref (q 0), .int (nI t)]) (n := 2) (Nat.le_of_ble_eq_true rfl)
  rw [lg_entry_eq]
  generalize (lg_sl ([.ref (q 0), .int (nI t)]) ++ List.replicate (2 - (lg_sl ([.ref (q 0), .int (nI t)])).length) Slot.unset).toArray = ls at hl ⊢
  have hl : lv_has ls 2 [(0, .ref (q 0)), (1, .int (nI t))] := hl
  refine lv_aload_n hx hb dX0_setsWith_0 rfl (lv_at hl 0 rfl) ?_
  refine lv_iload_n hx hb dX0_setsWith_1 rfl (lv_at hl 1 rfl) ?_
  refine pcV_v (As := [.int (nI t)]) (rest := []) ⟨hx, hb, hml, hown, hts⟩ (g_X_requireThing l hP htc hnc hac ht) (cwV 1 hts gX0_setsWith_X0_requireThing rfl rfl rfl hdX0_requireThing ⟨Nat.le_of_ble_eq_true rfl, Nat.le_of_ble_eq_true rfl⟩) (va_recv hK hP (ci := 0) (q0 := 0) rfl rfl) hK rfl hl.1 (Nat.le_of_ble_eq_true rfl) rfl dX0_setsWith_2 ⟨Nat.le_of_ble_eq_true rfl, Nat.le_of_ble_eq_true rfl⟩ ?_
  refine lv_aload_n hx hb dX0_setsWith_5 rfl (lv_at hl 0 rfl) ?_
  refine lv_iload_n hx hb dX0_setsWith_6 rfl (lv_at hl 1 rfl) ?_
  refine pcS_i (As := [.int (nI t)]) (rest := [.ref (q 0)]) ⟨hx, hb, hml, hown, hts⟩ (g_X_setOf l (nI t)) (va_cwS 1 hts gX0_setsWith_X0_setOf rfl rfl rfl hdX0_setOf ⟨Nat.le_of_ble_eq_true rfl, Nat.le_of_ble_eq_true rfl⟩) rfl hl.1 (Nat.le_of_ble_eq_true rfl) rfl dX0_setsWith_7 ⟨Nat.le_of_ble_eq_true rfl, Nat.le_of_ble_eq_true rfl⟩ ?_
  refine pcV_i (As := [.int ((1 : Int32) <<< ((nI t) &&& 31))]) (rest := []) ⟨hx, hb, hml, hown, hts⟩ (g_X_explanationsMeeting l hP htc hnc hac (u := (1 : Int32) <<< ((nI t) &&& 31))) (cwV 1 hts gX0_setsWith_X0_explanationsMeeting rfl rfl rfl hdX0_explanationsMeeting ⟨Nat.le_of_ble_eq_true rfl, Nat.le_of_ble_eq_true rfl⟩) (va_recv hK hP (ci := 0) (q0 := 0) rfl rfl) hK rfl hl.1 (Nat.le_of_ble_eq_true rfl) rfl dX0_setsWith_10 ⟨Nat.le_of_ble_eq_true rfl, Nat.le_of_ble_eq_true rfl⟩ ?_
  exact W.iret (v := nI (mt U Z nc (pw tc) ((1 : Int32) <<< ((nI t) &&& 31)))) hx hb hr (fun t9 ht9 hW9 => ⟨nI (mt U Z nc (pw tc) ((1 : Int32) <<< ((nI t) &&& 31))), rfl, rfl, ht9⟩) (fun _ h => absurd h List.not_mem_nil) dX0_setsWith_13
set_option maxHeartbeats 4000000 in
set_option maxRecDepth 100000 in
theorem g_X_leftIfSmudged (l : Launch) {D : va_G} {cI cZ : ClassId} {q : Nat → Nat} {tc nc ac : Nat} {ch : Int32} {U : Nat → Int32} {Z : Nat → Bool} {B L F : Nat → Int32} {H : Heap} (hP : va_P D vwCl (wX cI cZ q tc nc ac ch U Z B L F) H) (htc : tc ≤ 8) (hnc : nc ≤ 40) (hac : ac ≤ 8) {k : Nat} (hk0 : 1 ≤ k) (hk : k < pw tc) : Met l yX0_leftIfSmudged wsX0_leftIfSmudged ({ frames := 2, cells := 0, slots := 0, locals := 44 }) (va_Pc [.ref (q 0), .int (nI k)] (rd D vwCl (tyA cI cZ) H)) (vp_Si (fun r => r = nI (mt U Z nc (pw tc) (nI k)))) 0 0 (fun _ => False) := by
  refine Met.ofW (cc := cX0_leftIfSmudged) (maxL := 2) (ret := (some .int)) (by decide) rfl ?_
  intro p e s m args below meth c s₁ B9 hml hv
  obtain ⟨rfl, hH, hK⟩ := hv
  subst hH
  have hx := B9.exec
  have hb := B9.bytes
  have hr := B9.returns
  have hts := atoms_spec (ws := wsX0_leftIfSmudged) B9.pre
  have hown : s.vm.findClass RX0 = some m.cls := findClass_of_methodNamed B9.named
  have hlocks := B9.notSynchronized
  have hl := lv_entry ([.ref (q 0), .int (nI k)]) (n := 2) (Nat.le_of_ble_eq_true rfl)
  rw [lg_entry_eq]
  generalize (lg_sl ([.ref (q 0), .int (nI k)]) ++ List.replicate (2 - (lg_sl ([.ref (q 0), .int (nI k)])).length) Slot.unset).toArray = ls at hl ⊢
  have hl : lv_has ls 2 [(0, .ref (q 0)), (1, .int (nI k))] := hl
  refine lv_aload_n hx hb dX0_leftIfSmudged_0 rfl (lv_at hl 0 rfl) ?_
  refine lv_iload_n hx hb dX0_leftIfSmudged_1 rfl (lv_at hl 1 rfl) ?_
  refine pcV_v (As := [.int (nI k)]) (rest := []) ⟨hx, hb, hml, hown, hts⟩ (g_X_requireUsableSet l hP htc hnc hac hk0 hk) (cwV 1 hts gX0_leftIfSmudged_X0_requireUsableSet rfl rfl rfl hdX0_requireUsableSet ⟨Nat.le_of_ble_eq_true rfl, Nat.le_of_ble_eq_true rfl⟩) (va_recv hK hP (ci := 0) (q0 := 0) rfl rfl) hK rfl hl.1 (Nat.le_of_ble_eq_true rfl) rfl dX0_leftIfSmudged_2 ⟨Nat.le_of_ble_eq_true rfl, Nat.le_of_ble_eq_true rfl⟩ ?_
  refine lv_aload_n hx hb dX0_leftIfSmudged_5 rfl (lv_at hl 0 rfl) ?_
  refine lv_iload_n hx hb dX0_leftIfSmudged_6 rfl (lv_at hl 1 rfl) ?_
  refine pcV_i (As := [.int (nI k)]) (rest := []) ⟨hx, hb, hml, hown, hts⟩ (g_X_explanationsMeeting l hP htc hnc hac (u := nI k)) (cwV 1 hts gX0_leftIfSmudged_X0_explanationsMeeting rfl rfl rfl hdX0_explanationsMeeting ⟨Nat.le_of_ble_eq_true rfl, Nat.le_of_ble_eq_true rfl⟩) (va_recv hK hP (ci := 0) (q0 := 0) rfl rfl) hK rfl hl.1 (Nat.le_of_ble_eq_true rfl) rfl dX0_leftIfSmudged_7 ⟨Nat.le_of_ble_eq_true rfl, Nat.le_of_ble_eq_true rfl⟩ ?_
  exact W.iret (v := nI (mt U Z nc (pw tc) (nI k))) hx hb hr (fun t9 ht9 hW9 => ⟨nI (mt U Z nc (pw tc) (nI k)), rfl, rfl, ht9⟩) (fun _ h => absurd h List.not_mem_nil) dX0_leftIfSmudged_10
set_option maxHeartbeats 4000000 in
set_option maxRecDepth 100000 in
theorem g_X_simplest (l : Launch) {D : va_G} {cI cZ : ClassId} {q : Nat → Nat} {tc nc ac : Nat} {ch : Int32} {U : Nat → Int32} {Z : Nat → Bool} {B L F : Nat → Int32} {H : Heap} (hP : va_P D vwCl (wX cI cZ q tc nc ac ch U Z B L F) H) (htc : tc ≤ 8) (hnc : nc ≤ 40) (hac : ac ≤ 8) : Met l yX0_simplest wsX0_simplest ({ frames := 1, cells := 0, slots := 0, locals := 21 }) (va_Pc [.ref (q 0)] (rd D vwCl (tyA cI cZ) H)) (vp_Si (fun r => r = (spx (fun k => zz U Z nc k) (pw tc)).1)) 0 0 (fun _ => False) := by
  refine Met.ofW (cc := cX0_simplest) (maxL := 4) (ret := (some .int)) (by decide) rfl ?_
  intro p e s m args below meth c s₁ B9 hml hv
  obtain ⟨rfl, hH, hK⟩ := hv
  subst hH
  have hx := B9.exec
  have hb := B9.bytes
  have hr := B9.returns
  have hts := atoms_spec (ws := wsX0_simplest) B9.pre
  have hown : s.vm.findClass RX0 = some m.cls := findClass_of_methodNamed B9.named
  have hlocks := B9.notSynchronized
  have hl := lv_entry ([.ref (q 0)]) (n := 4) (Nat.le_of_ble_eq_true rfl)
  rw [lg_entry_eq]
  generalize (lg_sl ([.ref (q 0)]) ++ List.replicate (4 - (lg_sl ([.ref (q 0)])).length) Slot.unset).toArray = ls at hl ⊢
  have hl : lv_has ls 4 [(0, .ref (q 0))] := hl
  have hpw := pw_in htc
  refine lv_iconst (v := (-1)) hx hb dX0_simplest_0 (by decide) ?_
  refine lv_istore_n (lv' := [(1, .int (-1)), (0, .ref (q 0))]) hx hb dX0_simplest_1 rfl hl (by decide) rfl (fun ls hl => ?_)
  refine lv_bipush (v := 9) hx hb dX0_simplest_2 (by decide) ?_
  refine lv_istore_n (lv' := [(2, .int 9), (1, .int (-1)), (0, .ref (q 0))]) hx hb dX0_simplest_4 rfl hl (by decide) rfl (fun ls hl => ?_)
  refine lv_iconst (v := 0) hx hb dX0_simplest_5 (by decide) ?_
  refine lv_istore_n (lv' := [(3, .int 0), (2, .int 9), (1, .int (-1)), (0, .ref (q 0))]) hx hb dX0_simplest_6 rfl hl (by decide) rfl (fun ls hl => ?_)
  refine w_loop (N := pw tc) (T := fun i => [(3, .int (nI i)), (2, .int ((spx (fun k => zz U Z nc k) i).2)), (1, .int ((spx (fun k => zz U Z nc k) i).1)), (0, .ref (q 0))]) (I := fun _ => True) 0 (Nat.zero_le _) trivial (lv_sub hl [0, 1, 2, 3] rfl) (fun i ls hi hI hl ih => ?_)
  have hl : lv_has ls 4 [(3, .int (nI i)), (2, .int ((spx (fun k => zz U Z nc k) i).2)), (1, .int ((spx (fun k => zz U Z nc k) i).1)), (0, .ref (q 0))] := hl
  refine lv_iload_n hx hb dX0_simplest_7 rfl (lv_at hl 0 rfl) ?_
  refine lv_aload_n hx hb dX0_simplest_8 rfl (lv_at hl 3 rfl) ?_
  refine pcV_i (As := []) (rest := [.int (nI i)]) ⟨hx, hb, hml, hown, hts⟩ (g_X_allThings l hP htc hnc hac) (cwV 0 hts gX0_simplest_X0_allThings rfl rfl rfl hdX0_allThings ⟨Nat.le_of_ble_eq_true rfl, Nat.le_of_ble_eq_true rfl⟩) (va_recv hK hP (ci := 0) (q0 := 0) rfl rfl) hK rfl hl.1 (Nat.le_of_ble_eq_true rfl) rfl dX0_simplest_9 ⟨Nat.le_of_ble_eq_true rfl, Nat.le_of_ble_eq_true rfl⟩ ?_
  refine lv_icmp_gt (tgt := 44) hx hb dX0_simplest_12 (by decide) (fun c12 => ?_) (fun c12 => ?_)
  · skip
    have hie : i = pw tc := gd_gt_t htc hi c12
    rw [hie] at hl
    refine lv_iload_n hx hb dX0_simplest_44 rfl (lv_at hl 2 rfl) ?_
    exact W.iret (v := (spx (fun k => zz U Z nc k) (pw tc)).1) hx hb hr (fun t9 ht9 hW9 => ⟨(spx (fun k => zz U Z nc k) (pw tc)).1, rfl, rfl, ht9⟩) (fun _ h => absurd h List.not_mem_nil) dX0_simplest_45
  · skip
    have hlt : i < pw tc := gd_gt_f htc hi c12
    refine lv_aload_n hx hb dX0_simplest_15 rfl (lv_at hl 3 rfl) ?_
    refine lv_iload_n hx hb dX0_simplest_16 rfl (lv_at hl 0 rfl) ?_
    refine pcV_i (As := [.int (nI i)]) (rest := []) ⟨hx, hb, hml, hown, hts⟩ (g_X_missesOf l hP htc hnc hac (k := i) (by omega : i < 256)) (cwV 1 hts gX0_simplest_X0_missesOf rfl rfl rfl hdX0_missesOf ⟨Nat.le_of_ble_eq_true rfl, Nat.le_of_ble_eq_true rfl⟩) (va_recv hK hP (ci := 0) (q0 := 0) rfl rfl) hK rfl hl.1 (Nat.le_of_ble_eq_true rfl) rfl dX0_simplest_17 ⟨Nat.le_of_ble_eq_true rfl, Nat.le_of_ble_eq_true rfl⟩ ?_
    refine lv_if_ne (tgt := 38) hx hb dX0_simplest_20 (by decide) (fun c20 => ?_) (fun c20 => ?_)
    · skip
      refine lv_iinc (v := nI (i + 1)) (lv' := [(3, .int (nI (i + 1))), (2, .int ((spx (fun k => zz U Z nc k) i).2)), (1, .int ((spx (fun k => zz U Z nc k) i).1)), (0, .ref (q 0))]) hx hb dX0_simplest_38 hl (k := 0) rfl (nI_1 _) (by decide) rfl (fun ls hl => ?_)
      refine lv_goto (tgt := 7) hx hb dX0_simplest_41 (by decide) ?_
      have e2 : ((spx (fun k => zz U Z nc k) i).2) = (spx (fun k => zz U Z nc k) (i + 1)).2 := by first | rw [spx_f (zz_f c20)] | rw [spx_g c28] | rw [spx_t (zz_t c20) c28]
      have e1 : ((spx (fun k => zz U Z nc k) i).1) = (spx (fun k => zz U Z nc k) (i + 1)).1 := by first | rw [spx_f (zz_f c20)] | rw [spx_g c28] | rw [spx_t (zz_t c20) c28]
      have hl := lv_sub (l' := [(3, .int (nI (i + 1))), (2, .int ((spx (fun k => zz U Z nc k) i).2)), (1, .int ((spx (fun k => zz U Z nc k) i).1)), (0, .ref (q 0))]) hl [0, 1, 2, 3] rfl
      rw [e2, e1] at hl
      exact ih ls hlt trivial hl
    · skip
      refine lv_iload_n hx hb dX0_simplest_23 rfl (lv_at hl 0 rfl) ?_
      refine pcS_i (As := [.int (nI i)]) (rest := []) ⟨hx, hb, hml, hown, hts⟩ (g_bitCount l (nI i)) (va_cwS 1 hts gX0_simplest_J6_bitCount_0f7a4 rfl rfl rfl hdJ6_bitCount_0f7a4 ⟨Nat.le_of_ble_eq_true rfl, Nat.le_of_ble_eq_true rfl⟩) rfl hl.1 (Nat.le_of_ble_eq_true rfl) rfl dX0_simplest_24 ⟨Nat.le_of_ble_eq_true rfl, Nat.le_of_ble_eq_true rfl⟩ ?_
      refine lv_iload_n hx hb dX0_simplest_27 rfl (lv_at hl 1 rfl) ?_
      refine lv_icmp_ge (tgt := 38) hx hb dX0_simplest_28 (by decide) (fun c28 => ?_) (fun c28 => ?_)
      · skip
        refine lv_iinc (v := nI (i + 1)) (lv' := [(3, .int (nI (i + 1))), (2, .int ((spx (fun k => zz U Z nc k) i).2)), (1, .int ((spx (fun k => zz U Z nc k) i).1)), (0, .ref (q 0))]) hx hb dX0_simplest_38 hl (k := 0) rfl (nI_1 _) (by decide) rfl (fun ls hl => ?_)
        refine lv_goto (tgt := 7) hx hb dX0_simplest_41 (by decide) ?_
        have e2 : ((spx (fun k => zz U Z nc k) i).2) = (spx (fun k => zz U Z nc k) (i + 1)).2 := by first | rw [spx_f (zz_f c20)] | rw [spx_g c28] | rw [spx_t (zz_t c20) c28]
        have e1 : ((spx (fun k => zz U Z nc k) i).1) = (spx (fun k => zz U Z nc k) (i + 1)).1 := by first | rw [spx_f (zz_f c20)] | rw [spx_g c28] | rw [spx_t (zz_t c20) c28]
        have hl := lv_sub (l' := [(3, .int (nI (i + 1))), (2, .int ((spx (fun k => zz U Z nc k) i).2)), (1, .int ((spx (fun k => zz U Z nc k) i).1)), (0, .ref (q 0))]) hl [0, 1, 2, 3] rfl
        rw [e2, e1] at hl
        exact ih ls hlt trivial hl
      · skip
        refine lv_iload_n hx hb dX0_simplest_31 rfl (lv_at hl 0 rfl) ?_
        refine lv_istore_n (lv' := [(1, .int (nI i)), (3, .int (nI i)), (2, .int ((spx (fun k => zz U Z nc k) i).2)), (0, .ref (q 0))]) hx hb dX0_simplest_32 rfl hl (by decide) rfl (fun ls hl => ?_)
        refine lv_iload_n hx hb dX0_simplest_33 rfl (lv_at hl 1 rfl) ?_
        refine pcS_i (As := [.int (nI i)]) (rest := []) ⟨hx, hb, hml, hown, hts⟩ (g_bitCount l (nI i)) (va_cwS 1 hts gX0_simplest_J6_bitCount_0f7a4 rfl rfl rfl hdJ6_bitCount_0f7a4 ⟨Nat.le_of_ble_eq_true rfl, Nat.le_of_ble_eq_true rfl⟩) rfl hl.1 (Nat.le_of_ble_eq_true rfl) rfl dX0_simplest_34 ⟨Nat.le_of_ble_eq_true rfl, Nat.le_of_ble_eq_true rfl⟩ ?_
        refine lv_istore_n (lv' := [(2, .int (bc (nI i))), (1, .int (nI i)), (3, .int (nI i)), (0, .ref (q 0))]) hx hb dX0_simplest_37 rfl hl (by decide) rfl (fun ls hl => ?_)
        refine lv_iinc (v := nI (i + 1)) (lv' := [(3, .int (nI (i + 1))), (2, .int (bc (nI i))), (1, .int (nI i)), (0, .ref (q 0))]) hx hb dX0_simplest_38 hl (k := 2) rfl (nI_1 _) (by decide) rfl (fun ls hl => ?_)
        refine lv_goto (tgt := 7) hx hb dX0_simplest_41 (by decide) ?_
        have e2 : (bc (nI i)) = (spx (fun k => zz U Z nc k) (i + 1)).2 := by first | rw [spx_f (zz_f c20)] | rw [spx_g c28] | rw [spx_t (zz_t c20) c28]
        have e1 : (nI i) = (spx (fun k => zz U Z nc k) (i + 1)).1 := by first | rw [spx_f (zz_f c20)] | rw [spx_g c28] | rw [spx_t (zz_t c20) c28]
        have hl := lv_sub (l' := [(3, .int (nI (i + 1))), (2, .int (bc (nI i))), (1, .int (nI i)), (0, .ref (q 0))]) hl [0, 1, 2, 3] rfl
        rw [e2, e1] at hl
        exact ih ls hlt trivial hl
set_option maxHeartbeats 4000000 in
set_option maxRecDepth 100000 in
theorem g_X_nightsToDoubt (l : Launch) {D : va_G} {cI cZ : ClassId} {q : Nat → Nat} {tc nc ac : Nat} {ch : Int32} {U : Nat → Int32} {Z : Nat → Bool} {B L F : Nat → Int32} {H : Heap} (hP : va_P D vwCl (wX cI cZ q tc nc ac ch U Z B L F) H) (htc : tc ≤ 8) (hnc : nc ≤ 40) (hac : ac ≤ 8) : Met l yX0_nightsToDoubt wsX0_nightsToDoubt ({ frames := 1, cells := 0, slots := 0, locals := 21 }) (va_Pc [.ref (q 0)] (rd D vwCl (tyA cI cZ) H)) (vp_Si (fun r => r = mnf (mis U Z nc) (nI nc) (pw tc))) 0 0 (fun _ => False) := by
  refine Met.ofW (cc := cX0_nightsToDoubt) (maxL := 3) (ret := (some .int)) (by decide) rfl ?_
  intro p e s m args below meth c s₁ B9 hml hv
  obtain ⟨rfl, hH, hK⟩ := hv
  subst hH
  have hx := B9.exec
  have hb := B9.bytes
  have hr := B9.returns
  have hts := atoms_spec (ws := wsX0_nightsToDoubt) B9.pre
  have hown : s.vm.findClass RX0 = some m.cls := findClass_of_methodNamed B9.named
  have hlocks := B9.notSynchronized
  have hin : ∀ w ∈ u_ws RX0 TX0 10, w ∈ wsX0_nightsToDoubt := fun w h => List.mem_cons_of_mem _ (List.mem_append_right _ h)
  have hl := lv_entry ([.ref (q 0)]) (n := 3) (Nat.le_of_ble_eq_true rfl)
  rw [lg_entry_eq]
  generalize (lg_sl ([.ref (q 0)]) ++ List.replicate (3 - (lg_sl ([.ref (q 0)])).length) Slot.unset).toArray = ls at hl ⊢
  have hl : lv_has ls 3 [(0, .ref (q 0))] := hl
  have hpw := pw_in htc
  refine lv_aload_n hx hb dX0_nightsToDoubt_0 rfl (lv_at hl 0 rfl) ?_
  refine va_get (D := D) (ci := 0) (v := .int (nI nc)) (C := RX0) (T := TX0) (N := 10) hx hb hts hin hown hK hP 0 rfl rfl 1 (by decide) (hts (.fieldLink RX0 13 "SmudgedStar" "nightCount" "I") (List.mem_of_getElem? (i := 1) rfl)) (fun _ h9 => h9) rfl dX0_nightsToDoubt_1 ?_
  refine lv_istore_n (lv' := [(1, .int (nI nc)), (0, .ref (q 0))]) hx hb dX0_nightsToDoubt_4 rfl hl (by decide) rfl (fun ls hl => ?_)
  refine lv_iconst (v := 0) hx hb dX0_nightsToDoubt_5 (by decide) ?_
  refine lv_istore_n (lv' := [(2, .int 0), (1, .int (nI nc)), (0, .ref (q 0))]) hx hb dX0_nightsToDoubt_6 rfl hl (by decide) rfl (fun ls hl => ?_)
  refine w_loop (N := pw tc) (T := fun i => [(2, .int (nI i)), (1, .int (mnf (mis U Z nc) (nI nc) i)), (0, .ref (q 0))]) (I := fun _ => True) 0 (Nat.zero_le _) trivial (lv_sub hl [0, 1, 2] rfl) (fun i ls hi hI hl ih => ?_)
  have hl : lv_has ls 3 [(2, .int (nI i)), (1, .int (mnf (mis U Z nc) (nI nc) i)), (0, .ref (q 0))] := hl
  refine lv_iload_n hx hb dX0_nightsToDoubt_7 rfl (lv_at hl 0 rfl) ?_
  refine lv_aload_n hx hb dX0_nightsToDoubt_8 rfl (lv_at hl 2 rfl) ?_
  refine pcV_i (As := []) (rest := [.int (nI i)]) ⟨hx, hb, hml, hown, hts⟩ (g_X_allThings l hP htc hnc hac) (cwV 0 hts gX0_nightsToDoubt_X0_allThings rfl rfl rfl hdX0_allThings ⟨Nat.le_of_ble_eq_true rfl, Nat.le_of_ble_eq_true rfl⟩) (va_recv hK hP (ci := 0) (q0 := 0) rfl rfl) hK rfl hl.1 (Nat.le_of_ble_eq_true rfl) rfl dX0_nightsToDoubt_9 ⟨Nat.le_of_ble_eq_true rfl, Nat.le_of_ble_eq_true rfl⟩ ?_
  refine lv_icmp_gt (tgt := 31) hx hb dX0_nightsToDoubt_12 (by decide) (fun c12 => ?_) (fun c12 => ?_)
  · skip
    have hie : i = pw tc := gd_gt_t htc hi c12
    rw [hie] at hl
    refine lv_iload_n hx hb dX0_nightsToDoubt_31 rfl (lv_at hl 1 rfl) ?_
    exact W.iret (v := mnf (mis U Z nc) (nI nc) (pw tc)) hx hb hr (fun t9 ht9 hW9 => ⟨mnf (mis U Z nc) (nI nc) (pw tc), rfl, rfl, ht9⟩) (fun _ h => absurd h List.not_mem_nil) dX0_nightsToDoubt_32
  · skip
    have hlt : i < pw tc := gd_gt_f htc hi c12
    refine lv_iload_n hx hb dX0_nightsToDoubt_15 rfl (lv_at hl 1 rfl) ?_
    refine lv_aload_n hx hb dX0_nightsToDoubt_16 rfl (lv_at hl 2 rfl) ?_
    refine lv_iload_n hx hb dX0_nightsToDoubt_17 rfl (lv_at hl 0 rfl) ?_
    refine pcV_i (As := [.int (nI i)]) (rest := [.int (mnf (mis U Z nc) (nI nc) i)]) ⟨hx, hb, hml, hown, hts⟩ (g_X_missesOf l hP htc hnc hac (k := i) (by omega : i < 256)) (cwV 1 hts gX0_nightsToDoubt_X0_missesOf rfl rfl rfl hdX0_missesOf ⟨Nat.le_of_ble_eq_true rfl, Nat.le_of_ble_eq_true rfl⟩) (va_recv hK hP (ci := 0) (q0 := 0) rfl rfl) hK rfl hl.1 (Nat.le_of_ble_eq_true rfl) rfl dX0_nightsToDoubt_18 ⟨Nat.le_of_ble_eq_true rfl, Nat.le_of_ble_eq_true rfl⟩ ?_
    refine va_mmin hx hb (by rw [hml]; exact hl.1.symm) hown (hts (.methodLink RX0 123 Lib.Math.min.name) (List.mem_of_getElem? (i := 2) rfl)) (hts (.static Lib.Math.min.name) (List.mem_of_getElem? (i := 3) rfl)) (hts (.initialized "java/lang/Math") (List.mem_of_getElem? (i := 4) rfl)) (hts (.code Lib.Math.min.name Lib.Math.min.code 2 (some .int)) (List.mem_of_getElem? (i := 5) rfl)) (Nat.le_of_ble_eq_true rfl) (Nat.le_of_ble_eq_true rfl) (Nat.le_of_ble_eq_true rfl) (Nat.le_of_ble_eq_true rfl) dX0_nightsToDoubt_21 ?_
    refine lv_istore_n (lv' := [(1, .int (if nI (un U Z (nI i) nc) < mnf (mis U Z nc) (nI nc) i then nI (un U Z (nI i) nc) else mnf (mis U Z nc) (nI nc) i)), (2, .int (nI i)), (0, .ref (q 0))]) hx hb dX0_nightsToDoubt_24 rfl hl (by decide) rfl (fun ls hl => ?_)
    refine lv_iinc (v := nI (i + 1)) (lv' := [(2, .int (nI (i + 1))), (1, .int (if nI (un U Z (nI i) nc) < mnf (mis U Z nc) (nI nc) i then nI (un U Z (nI i) nc) else mnf (mis U Z nc) (nI nc) i)), (0, .ref (q 0))]) hx hb dX0_nightsToDoubt_25 hl (k := 1) rfl (nI_1 _) (by decide) rfl (fun ls hl => ?_)
    refine lv_goto (tgt := 7) hx hb dX0_nightsToDoubt_28 (by decide) ?_
    have e1 : (if nI (un U Z (nI i) nc) < mnf (mis U Z nc) (nI nc) i then nI (un U Z (nI i) nc) else mnf (mis U Z nc) (nI nc) i) = mnf (mis U Z nc) (nI nc) (i + 1) := mnf_s (mis U Z nc) (nI nc) i
    have hl := lv_sub (l' := [(2, .int (nI (i + 1))), (1, .int (if nI (un U Z (nI i) nc) < mnf (mis U Z nc) (nI nc) i then nI (un U Z (nI i) nc) else mnf (mis U Z nc) (nI nc) i)), (0, .ref (q 0))]) hl [0, 1, 2] rfl
    rw [e1] at hl
    exact ih ls hlt trivial hl
set_option maxHeartbeats 4000000 in
set_option maxRecDepth 100000 in
theorem g_X_agree (l : Launch) {D : va_G} {cI cZ : ClassId} {q : Nat → Nat} {tc nc ac : Nat} {ch : Int32} {U : Nat → Int32} {Z : Nat → Bool} {B L F : Nat → Int32} {H : Heap} (hP : va_P D vwCl (wX cI cZ q tc nc ac ch U Z B L F) H) (htc : tc ≤ 8) (hnc : nc ≤ 40) (hac : ac ≤ 8) : Met l yX0_agree wsX0_agree ({ frames := 2, cells := 0, slots := 0, locals := 43 }) (va_Pc [.ref (q 0)] (rd D vwCl (tyA cI cZ) H)) (vp_Si (fun r => r = bI (decide (mnf (mis U Z nc) (nI nc) (pw tc) = 0)))) 0 0 (fun _ => False) := by
  refine Met.ofW (cc := cX0_agree) (maxL := 1) (ret := (some .boolean)) (by decide) rfl ?_
  intro p e s m args below meth c s₁ B9 hml hv
  obtain ⟨rfl, hH, hK⟩ := hv
  subst hH
  have hx := B9.exec
  have hb := B9.bytes
  have hr := B9.returns
  have hts := atoms_spec (ws := wsX0_agree) B9.pre
  have hown : s.vm.findClass RX0 = some m.cls := findClass_of_methodNamed B9.named
  have hlocks := B9.notSynchronized
  have hl := lv_entry ([.ref (q 0)]) (n := 1) (Nat.le_of_ble_eq_true rfl)
  rw [lg_entry_eq]
  generalize (lg_sl ([.ref (q 0)]) ++ List.replicate (1 - (lg_sl ([.ref (q 0)])).length) Slot.unset).toArray = ls at hl ⊢
  have hl : lv_has ls 1 [(0, .ref (q 0))] := hl
  refine lv_aload_n hx hb dX0_agree_0 rfl (lv_at hl 0 rfl) ?_
  refine pcV_i (As := []) (rest := []) ⟨hx, hb, hml, hown, hts⟩ (g_X_nightsToDoubt l hP htc hnc hac) (cwV 0 hts gX0_agree_X0_nightsToDoubt rfl rfl rfl hdX0_nightsToDoubt ⟨Nat.le_of_ble_eq_true rfl, Nat.le_of_ble_eq_true rfl⟩) (va_recv hK hP (ci := 0) (q0 := 0) rfl rfl) hK rfl hl.1 (Nat.le_of_ble_eq_true rfl) rfl dX0_agree_1 ⟨Nat.le_of_ble_eq_true rfl, Nat.le_of_ble_eq_true rfl⟩ ?_
  refine lv_if_ne (tgt := 11) hx hb dX0_agree_4 (by decide) (fun c4 => ?_) (fun c4 => ?_)
  · skip
    refine lv_iconst (v := 0) hx hb dX0_agree_11 (by decide) ?_
    exact W.zret (v := 0) (ty := .boolean) hx hb hr (rfl) (fun t9 ht9 hW9 => ⟨0, rfl, (by rw [decide_eq_false c4]; rfl), ht9⟩) (fun _ h => absurd h List.not_mem_nil) dX0_agree_12
  · skip
    refine lv_iconst (v := 1) hx hb dX0_agree_7 (by decide) ?_
    refine lv_goto (tgt := 12) hx hb dX0_agree_8 (by decide) ?_
    exact W.zret (v := 1) (ty := .boolean) hx hb hr (rfl) (fun t9 ht9 hW9 => ⟨1, rfl, (by rw [decide_eq_true c4]; rfl), ht9⟩) (fun _ h => absurd h List.not_mem_nil) dX0_agree_12
set_option maxHeartbeats 4000000 in
set_option maxRecDepth 100000 in
theorem g_X_surelyToBlame (l : Launch) {D : va_G} {cI cZ : ClassId} {q : Nat → Nat} {tc nc ac : Nat} {ch : Int32} {U : Nat → Int32} {Z : Nat → Bool} {B L F : Nat → Int32} {H : Heap} (hP : va_P D vwCl (wX cI cZ q tc nc ac ch U Z B L F) H) (htc : tc ≤ 8) (hnc : nc ≤ 40) (hac : ac ≤ 8) : Met l yX0_surelyToBlame wsX0_surelyToBlame ({ frames := 3, cells := 0, slots := 0, locals := 63 }) (va_Pc [.ref (q 0)] (rd D vwCl (tyA cI cZ) H)) (vp_Si (fun r => r = (if decide (mnf (mis U Z nc) (nI nc) (pw tc) = 0) = true then anf (fun k => zz U Z nc k) (nI (pw tc - 1)) (pw tc) else -1))) 0 0 (fun _ => False) := by
  refine Met.ofW (cc := cX0_surelyToBlame) (maxL := 3) (ret := (some .int)) (by decide) rfl ?_
  intro p e s m args below meth c s₁ B9 hml hv
  obtain ⟨rfl, hH, hK⟩ := hv
  subst hH
  have hx := B9.exec
  have hb := B9.bytes
  have hr := B9.returns
  have hts := atoms_spec (ws := wsX0_surelyToBlame) B9.pre
  have hown : s.vm.findClass RX0 = some m.cls := findClass_of_methodNamed B9.named
  have hlocks := B9.notSynchronized
  have hl := lv_entry ([.ref (q 0)]) (n := 3) (Nat.le_of_ble_eq_true rfl)
  rw [lg_entry_eq]
  generalize (lg_sl ([.ref (q 0)]) ++ List.replicate (3 - (lg_sl ([.ref (q 0)])).length) Slot.unset).toArray = ls at hl ⊢
  have hl : lv_has ls 3 [(0, .ref (q 0))] := hl
  have hpw := pw_in htc
  refine lv_aload_n hx hb dX0_surelyToBlame_0 rfl (lv_at hl 0 rfl) ?_
  refine pcV_i (As := []) (rest := []) ⟨hx, hb, hml, hown, hts⟩ (g_X_agree l hP htc hnc hac) (cwV 0 hts gX0_surelyToBlame_X0_agree rfl rfl rfl hdX0_agree ⟨Nat.le_of_ble_eq_true rfl, Nat.le_of_ble_eq_true rfl⟩) (va_recv hK hP (ci := 0) (q0 := 0) rfl rfl) hK rfl hl.1 (Nat.le_of_ble_eq_true rfl) rfl dX0_surelyToBlame_1 ⟨Nat.le_of_ble_eq_true rfl, Nat.le_of_ble_eq_true rfl⟩ ?_
  refine lv_ifb_ne (tgt := 9) hx hb dX0_surelyToBlame_4 (by decide) (fun c4 => ?_) (fun c4 => ?_)
  · skip
    refine lv_aload_n hx hb dX0_surelyToBlame_9 rfl (lv_at hl 0 rfl) ?_
    refine pcV_i (As := []) (rest := []) ⟨hx, hb, hml, hown, hts⟩ (g_X_allThings l hP htc hnc hac) (cwV 0 hts gX0_surelyToBlame_X0_allThings rfl rfl rfl hdX0_allThings ⟨Nat.le_of_ble_eq_true rfl, Nat.le_of_ble_eq_true rfl⟩) (va_recv hK hP (ci := 0) (q0 := 0) rfl rfl) hK rfl hl.1 (Nat.le_of_ble_eq_true rfl) rfl dX0_surelyToBlame_10 ⟨Nat.le_of_ble_eq_true rfl, Nat.le_of_ble_eq_true rfl⟩ ?_
    refine lv_istore_n (lv' := [(1, .int (nI (pw tc - 1))), (0, .ref (q 0))]) hx hb dX0_surelyToBlame_13 rfl hl (by decide) rfl (fun ls hl => ?_)
    refine lv_iconst (v := 0) hx hb dX0_surelyToBlame_14 (by decide) ?_
    refine lv_istore_n (lv' := [(2, .int 0), (1, .int (nI (pw tc - 1))), (0, .ref (q 0))]) hx hb dX0_surelyToBlame_15 rfl hl (by decide) rfl (fun ls hl => ?_)
    refine w_loop (N := pw tc) (T := fun i => [(2, .int (nI i)), (1, .int (anf (fun k => zz U Z nc k) (nI (pw tc - 1)) i)), (0, .ref (q 0))]) (I := fun _ => True) 0 (Nat.zero_le _) trivial (lv_sub hl [0, 1, 2] rfl) (fun i ls hi hI hl ih => ?_)
    have hl : lv_has ls 3 [(2, .int (nI i)), (1, .int (anf (fun k => zz U Z nc k) (nI (pw tc - 1)) i)), (0, .ref (q 0))] := hl
    refine lv_iload_n hx hb dX0_surelyToBlame_16 rfl (lv_at hl 0 rfl) ?_
    refine lv_aload_n hx hb dX0_surelyToBlame_17 rfl (lv_at hl 2 rfl) ?_
    refine pcV_i (As := []) (rest := [.int (nI i)]) ⟨hx, hb, hml, hown, hts⟩ (g_X_allThings l hP htc hnc hac) (cwV 0 hts gX0_surelyToBlame_X0_allThings rfl rfl rfl hdX0_allThings ⟨Nat.le_of_ble_eq_true rfl, Nat.le_of_ble_eq_true rfl⟩) (va_recv hK hP (ci := 0) (q0 := 0) rfl rfl) hK rfl hl.1 (Nat.le_of_ble_eq_true rfl) rfl dX0_surelyToBlame_18 ⟨Nat.le_of_ble_eq_true rfl, Nat.le_of_ble_eq_true rfl⟩ ?_
    refine lv_icmp_gt (tgt := 42) hx hb dX0_surelyToBlame_21 (by decide) (fun c21 => ?_) (fun c21 => ?_)
    · skip
      have hie : i = pw tc := gd_gt_t htc hi c21
      rw [hie] at hl
      refine lv_iload_n hx hb dX0_surelyToBlame_42 rfl (lv_at hl 1 rfl) ?_
      exact W.iret (v := anf (fun k => zz U Z nc k) (nI (pw tc - 1)) (pw tc)) hx hb hr (fun t9 ht9 hW9 => ⟨anf (fun k => zz U Z nc k) (nI (pw tc - 1)) (pw tc), rfl, (by rw [if_pos c4]), ht9⟩) (fun _ h => absurd h List.not_mem_nil) dX0_surelyToBlame_43
    · skip
      have hlt : i < pw tc := gd_gt_f htc hi c21
      refine lv_aload_n hx hb dX0_surelyToBlame_24 rfl (lv_at hl 2 rfl) ?_
      refine lv_iload_n hx hb dX0_surelyToBlame_25 rfl (lv_at hl 0 rfl) ?_
      refine pcV_i (As := [.int (nI i)]) (rest := []) ⟨hx, hb, hml, hown, hts⟩ (g_X_missesOf l hP htc hnc hac (k := i) (by omega : i < 256)) (cwV 1 hts gX0_surelyToBlame_X0_missesOf rfl rfl rfl hdX0_missesOf ⟨Nat.le_of_ble_eq_true rfl, Nat.le_of_ble_eq_true rfl⟩) (va_recv hK hP (ci := 0) (q0 := 0) rfl rfl) hK rfl hl.1 (Nat.le_of_ble_eq_true rfl) rfl dX0_surelyToBlame_26 ⟨Nat.le_of_ble_eq_true rfl, Nat.le_of_ble_eq_true rfl⟩ ?_
      refine lv_if_ne (tgt := 36) hx hb dX0_surelyToBlame_29 (by decide) (fun c29 => ?_) (fun c29 => ?_)
      · skip
        refine lv_iinc (v := nI (i + 1)) (lv' := [(2, .int (nI (i + 1))), (1, .int (anf (fun k => zz U Z nc k) (nI (pw tc - 1)) i)), (0, .ref (q 0))]) hx hb dX0_surelyToBlame_36 hl (k := 0) rfl (nI_1 _) (by decide) rfl (fun ls hl => ?_)
        refine lv_goto (tgt := 16) hx hb dX0_surelyToBlame_39 (by decide) ?_
        have e1 : (anf (fun k => zz U Z nc k) (nI (pw tc - 1)) i) = anf (fun k => zz U Z nc k) (nI (pw tc - 1)) (i + 1) := by first | exact anf_f (zz_f c29) | exact anf_t (zz_t c29)
        have hl := lv_sub (l' := [(2, .int (nI (i + 1))), (1, .int (anf (fun k => zz U Z nc k) (nI (pw tc - 1)) i)), (0, .ref (q 0))]) hl [0, 1, 2] rfl
        rw [e1] at hl
        exact ih ls hlt trivial hl
      · skip
        refine lv_iload_n hx hb dX0_surelyToBlame_32 rfl (lv_at hl 1 rfl) ?_
        refine lv_iload_n hx hb dX0_surelyToBlame_33 rfl (lv_at hl 0 rfl) ?_
        refine lv_iand hx hb dX0_surelyToBlame_34 ?_
        refine lv_istore_n (lv' := [(1, .int ((anf (fun k => zz U Z nc k) (nI (pw tc - 1)) i) &&& (nI i))), (2, .int (nI i)), (0, .ref (q 0))]) hx hb dX0_surelyToBlame_35 rfl hl (by decide) rfl (fun ls hl => ?_)
        refine lv_iinc (v := nI (i + 1)) (lv' := [(2, .int (nI (i + 1))), (1, .int ((anf (fun k => zz U Z nc k) (nI (pw tc - 1)) i) &&& (nI i))), (0, .ref (q 0))]) hx hb dX0_surelyToBlame_36 hl (k := 1) rfl (nI_1 _) (by decide) rfl (fun ls hl => ?_)
        refine lv_goto (tgt := 16) hx hb dX0_surelyToBlame_39 (by decide) ?_
        have e1 : ((anf (fun k => zz U Z nc k) (nI (pw tc - 1)) i) &&& (nI i)) = anf (fun k => zz U Z nc k) (nI (pw tc - 1)) (i + 1) := by first | exact anf_f (zz_f c29) | exact anf_t (zz_t c29)
        have hl := lv_sub (l' := [(2, .int (nI (i + 1))), (1, .int ((anf (fun k => zz U Z nc k) (nI (pw tc - 1)) i) &&& (nI i))), (0, .ref (q 0))]) hl [0, 1, 2] rfl
        rw [e1] at hl
        exact ih ls hlt trivial hl
  · skip
    refine lv_iconst (v := (-1)) hx hb dX0_surelyToBlame_7 (by decide) ?_
    exact W.iret (v := (-1)) hx hb hr (fun t9 ht9 hW9 => ⟨(-1), rfl, (by rw [c4]; rfl), ht9⟩) (fun _ h => absurd h List.not_mem_nil) dX0_surelyToBlame_8
set_option maxHeartbeats 4000000 in
set_option maxRecDepth 100000 in
theorem g_X_explainsAll (l : Launch) {D : va_G} {cI cZ : ClassId} {q : Nat → Nat} {tc nc ac : Nat} {ch : Int32} {U : Nat → Int32} {Z : Nat → Bool} {B L F : Nat → Int32} {H : Heap} (hP : va_P D vwCl (wX cI cZ q tc nc ac ch U Z B L F) H) (htc : tc ≤ 8) (hnc : nc ≤ 40) (hac : ac ≤ 8) {k : Nat} (hk : k < pw tc) : Met l yX0_explainsAll wsX0_explainsAll ({ frames := 2, cells := 0, slots := 0, locals := 41 }) (va_Pc [.ref (q 0), .int (nI k)] (rd D vwCl (tyA cI cZ) H)) (vp_Si (fun r => r = bI (zz U Z nc k))) 0 0 (fun _ => False) := by
  refine Met.ofW (cc := cX0_explainsAll) (maxL := 2) (ret := (some .boolean)) (by decide) rfl ?_
  intro p e s m args below meth c s₁ B9 hml hv
  obtain ⟨rfl, hH, hK⟩ := hv
  subst hH
  have hx := B9.exec
  have hb := B9.bytes
  have hr := B9.returns
  have hts := atoms_spec (ws := wsX0_explainsAll) B9.pre
  have hown : s.vm.findClass RX0 = some m.cls := findClass_of_methodNamed B9.named
  have hlocks := B9.notSynchronized
  have hl := lv_entry ([.ref (q 0), .int (nI k)]) (n := 2) (Nat.le_of_ble_eq_true rfl)
  rw [lg_entry_eq]
  generalize (lg_sl ([.ref (q 0), .int (nI k)]) ++ List.replicate (2 - (lg_sl ([.ref (q 0), .int (nI k)])).length) Slot.unset).toArray = ls at hl ⊢
  have hl : lv_has ls 2 [(0, .ref (q 0)), (1, .int (nI k))] := hl
  have hpw := pw_in htc
  refine lv_aload_n hx hb dX0_explainsAll_0 rfl (lv_at hl 0 rfl) ?_
  refine lv_iload_n hx hb dX0_explainsAll_1 rfl (lv_at hl 1 rfl) ?_
  refine pcV_v (As := [.int (nI k)]) (rest := []) ⟨hx, hb, hml, hown, hts⟩ (g_X_requireSet l hP htc hnc hac hk) (cwV 1 hts gX0_explainsAll_X0_requireSet rfl rfl rfl hdX0_requireSet ⟨Nat.le_of_ble_eq_true rfl, Nat.le_of_ble_eq_true rfl⟩) (va_recv hK hP (ci := 0) (q0 := 0) rfl rfl) hK rfl hl.1 (Nat.le_of_ble_eq_true rfl) rfl dX0_explainsAll_2 ⟨Nat.le_of_ble_eq_true rfl, Nat.le_of_ble_eq_true rfl⟩ ?_
  refine lv_aload_n hx hb dX0_explainsAll_5 rfl (lv_at hl 0 rfl) ?_
  refine lv_iload_n hx hb dX0_explainsAll_6 rfl (lv_at hl 1 rfl) ?_
  refine pcV_i (As := [.int (nI k)]) (rest := []) ⟨hx, hb, hml, hown, hts⟩ (g_X_missesOf l hP htc hnc hac (k := k) (by omega : k < 256)) (cwV 1 hts gX0_explainsAll_X0_missesOf rfl rfl rfl hdX0_missesOf ⟨Nat.le_of_ble_eq_true rfl, Nat.le_of_ble_eq_true rfl⟩) (va_recv hK hP (ci := 0) (q0 := 0) rfl rfl) hK rfl hl.1 (Nat.le_of_ble_eq_true rfl) rfl dX0_explainsAll_7 ⟨Nat.le_of_ble_eq_true rfl, Nat.le_of_ble_eq_true rfl⟩ ?_
  refine lv_if_ne (tgt := 17) hx hb dX0_explainsAll_10 (by decide) (fun c10 => ?_) (fun c10 => ?_)
  · skip
    refine lv_iconst (v := 0) hx hb dX0_explainsAll_17 (by decide) ?_
    exact W.zret (v := 0) (ty := .boolean) hx hb hr (rfl) (fun t9 ht9 hW9 => ⟨0, rfl, (by rw [zz_f c10]; rfl), ht9⟩) (fun _ h => absurd h List.not_mem_nil) dX0_explainsAll_18
  · skip
    refine lv_iconst (v := 1) hx hb dX0_explainsAll_13 (by decide) ?_
    refine lv_goto (tgt := 18) hx hb dX0_explainsAll_14 (by decide) ?_
    exact W.zret (v := 1) (ty := .boolean) hx hb hr (rfl) (fun t9 ht9 hW9 => ⟨1, rfl, (by rw [zz_t c10]; rfl), ht9⟩) (fun _ h => absurd h List.not_mem_nil) dX0_explainsAll_18
set_option maxHeartbeats 4000000 in
set_option maxRecDepth 100000 in
theorem g_X_wouldAgreeWith (l : Launch) {D : va_G} {cI cZ : ClassId} {q : Nat → Nat} {tc nc ac : Nat} {ch : Int32} {U : Nat → Int32} {Z : Nat → Bool} {B L F : Nat → Int32} {H : Heap} (hP : va_P D vwCl (wX cI cZ q tc nc ac ch U Z B L F) H) (htc : tc ≤ 8) (hnc : nc ≤ 40) (hac : ac ≤ 8) {u : Int32} {z : Bool} : Met l yX0_wouldAgreeWith wsX0_wouldAgreeWith ({ frames := 1, cells := 0, slots := 0, locals := 22 }) (va_Pc [.ref (q 0), .int u, .int (bI z)] (rd D vwCl (tyA cI cZ) H)) (vp_Si (fun r => r = bI (anyb (fun k => zz U Z nc k && sx (nI k) u z) (pw tc)))) 0 0 (fun _ => False) := by
  refine Met.ofW (cc := cX0_wouldAgreeWith) (maxL := 4) (ret := (some .boolean)) (by decide) rfl ?_
  intro p e s m args below meth c s₁ B9 hml hv
  obtain ⟨rfl, hH, hK⟩ := hv
  subst hH
  have hx := B9.exec
  have hb := B9.bytes
  have hr := B9.returns
  have hts := atoms_spec (ws := wsX0_wouldAgreeWith) B9.pre
  have hown : s.vm.findClass RX0 = some m.cls := findClass_of_methodNamed B9.named
  have hlocks := B9.notSynchronized
  have hl := lv_entry ([.ref (q 0), .int u, .int (bI z)]) (n := 4) (Nat.le_of_ble_eq_true rfl)
  rw [lg_entry_eq]
  generalize (lg_sl ([.ref (q 0), .int u, .int (bI z)]) ++ List.replicate (4 - (lg_sl ([.ref (q 0), .int u, .int (bI z)])).length) Slot.unset).toArray = ls at hl ⊢
  have hl : lv_has ls 4 [(0, .ref (q 0)), (1, .int u), (2, .int (bI z))] := hl
  have hpw := pw_in htc
  refine lv_iconst (v := 0) hx hb dX0_wouldAgreeWith_0 (by decide) ?_
  refine lv_istore_n (lv' := [(3, .int 0), (0, .ref (q 0)), (1, .int u), (2, .int (bI z))]) hx hb dX0_wouldAgreeWith_1 rfl hl (by decide) rfl (fun ls hl => ?_)
  refine w_loop (N := pw tc) (T := fun i => [(3, .int (nI i)), (0, .ref (q 0)), (1, .int u), (2, .int (bI z))]) (I := fun i => anyb (fun k => zz U Z nc k && sx (nI k) u z) i = false) 0 (Nat.zero_le _) rfl (lv_sub hl [0, 1, 2, 3] rfl) (fun i ls hi hI hl ih => ?_)
  have hI : anyb (fun k => zz U Z nc k && sx (nI k) u z) i = false := hI
  have hl : lv_has ls 4 [(3, .int (nI i)), (0, .ref (q 0)), (1, .int u), (2, .int (bI z))] := hl
  refine lv_iload_n hx hb dX0_wouldAgreeWith_2 rfl (lv_at hl 0 rfl) ?_
  refine lv_aload_n hx hb dX0_wouldAgreeWith_3 rfl (lv_at hl 1 rfl) ?_
  refine pcV_i (As := []) (rest := [.int (nI i)]) ⟨hx, hb, hml, hown, hts⟩ (g_X_allThings l hP htc hnc hac) (cwV 0 hts gX0_wouldAgreeWith_X0_allThings rfl rfl rfl hdX0_allThings ⟨Nat.le_of_ble_eq_true rfl, Nat.le_of_ble_eq_true rfl⟩) (va_recv hK hP (ci := 0) (q0 := 0) rfl rfl) hK rfl hl.1 (Nat.le_of_ble_eq_true rfl) rfl dX0_wouldAgreeWith_4 ⟨Nat.le_of_ble_eq_true rfl, Nat.le_of_ble_eq_true rfl⟩ ?_
  refine lv_icmp_gt (tgt := 35) hx hb dX0_wouldAgreeWith_7 (by decide) (fun c7 => ?_) (fun c7 => ?_)
  · skip
    have hie : i = pw tc := gd_gt_t htc hi c7
    rw [hie] at hl
    rw [hie] at hI
    refine lv_iconst (v := 0) hx hb dX0_wouldAgreeWith_35 (by decide) ?_
    exact W.zret (v := 0) (ty := .boolean) hx hb hr (rfl) (fun t9 ht9 hW9 => ⟨0, rfl, (by rw [hI]; rfl), ht9⟩) (fun _ h => absurd h List.not_mem_nil) dX0_wouldAgreeWith_36
  · skip
    have hlt : i < pw tc := gd_gt_f htc hi c7
    refine lv_aload_n hx hb dX0_wouldAgreeWith_10 rfl (lv_at hl 1 rfl) ?_
    refine lv_iload_n hx hb dX0_wouldAgreeWith_11 rfl (lv_at hl 0 rfl) ?_
    refine pcV_i (As := [.int (nI i)]) (rest := []) ⟨hx, hb, hml, hown, hts⟩ (g_X_missesOf l hP htc hnc hac (k := i) (by omega : i < 256)) (cwV 1 hts gX0_wouldAgreeWith_X0_missesOf rfl rfl rfl hdX0_missesOf ⟨Nat.le_of_ble_eq_true rfl, Nat.le_of_ble_eq_true rfl⟩) (va_recv hK hP (ci := 0) (q0 := 0) rfl rfl) hK rfl hl.1 (Nat.le_of_ble_eq_true rfl) rfl dX0_wouldAgreeWith_12 ⟨Nat.le_of_ble_eq_true rfl, Nat.le_of_ble_eq_true rfl⟩ ?_
    refine lv_if_ne (tgt := 29) hx hb dX0_wouldAgreeWith_15 (by decide) (fun c15 => ?_) (fun c15 => ?_)
    · skip
      refine lv_iinc (v := nI (i + 1)) (lv' := [(3, .int (nI (i + 1))), (0, .ref (q 0)), (1, .int u), (2, .int (bI z))]) hx hb dX0_wouldAgreeWith_29 hl (k := 0) rfl (nI_1 _) (by decide) rfl (fun ls hl => ?_)
      refine lv_goto (tgt := 2) hx hb dX0_wouldAgreeWith_32 (by decide) ?_
      have hl := lv_sub (l' := [(3, .int (nI (i + 1))), (0, .ref (q 0)), (1, .int u), (2, .int (bI z))]) hl [0, 1, 2, 3] rfl
      exact ih ls hlt (anyb_s hI (by simp [zz_t, zz_f, c7, c15])) hl
    · skip
      refine lv_iload_n hx hb dX0_wouldAgreeWith_18 rfl (lv_at hl 0 rfl) ?_
      refine lv_iload_n hx hb dX0_wouldAgreeWith_19 rfl (lv_at hl 2 rfl) ?_
      refine lv_iload_n hx hb dX0_wouldAgreeWith_20 rfl (lv_at hl 3 rfl) ?_
      refine pcS_i (As := [.int (nI i), .int u, .int (bI z)]) (rest := []) ⟨hx, hb, hml, hown, hts⟩ (g_X_explains l (nI i) u z) (va_cwS 3 hts gX0_wouldAgreeWith_X0_explains rfl rfl rfl hdX0_explains ⟨Nat.le_of_ble_eq_true rfl, Nat.le_of_ble_eq_true rfl⟩) rfl hl.1 (Nat.le_of_ble_eq_true rfl) rfl dX0_wouldAgreeWith_21 ⟨Nat.le_of_ble_eq_true rfl, Nat.le_of_ble_eq_true rfl⟩ ?_
      refine lv_ifb_eq (tgt := 29) hx hb dX0_wouldAgreeWith_24 (by decide) (fun c24 => ?_) (fun c24 => ?_)
      · skip
        refine lv_iinc (v := nI (i + 1)) (lv' := [(3, .int (nI (i + 1))), (0, .ref (q 0)), (1, .int u), (2, .int (bI z))]) hx hb dX0_wouldAgreeWith_29 hl (k := 0) rfl (nI_1 _) (by decide) rfl (fun ls hl => ?_)
        refine lv_goto (tgt := 2) hx hb dX0_wouldAgreeWith_32 (by decide) ?_
        have hl := lv_sub (l' := [(3, .int (nI (i + 1))), (0, .ref (q 0)), (1, .int u), (2, .int (bI z))]) hl [0, 1, 2, 3] rfl
        exact ih ls hlt (anyb_s hI (by simp [zz_t, zz_f, c7, c15, c24])) hl
      · skip
        refine lv_iconst (v := 1) hx hb dX0_wouldAgreeWith_27 (by decide) ?_
        exact W.zret (v := 1) (ty := .boolean) hx hb hr (rfl) (fun t9 ht9 hW9 => ⟨1, rfl, (by rw [anyb_of (p := (fun k => zz U Z nc k && sx (nI k) u z)) (i := i) (by simp [zz_t, zz_f, c7, c15, c24]) (pw tc) hlt]; rfl), ht9⟩) (fun _ h => absurd h List.not_mem_nil) dX0_wouldAgreeWith_28
set_option maxHeartbeats 4000000 in
set_option maxRecDepth 100000 in
theorem g_X_wouldChange (l : Launch) {D : va_G} {cI cZ : ClassId} {q : Nat → Nat} {tc nc ac : Nat} {ch : Int32} {U : Nat → Int32} {Z : Nat → Bool} {B L F : Nat → Int32} {H : Heap} (hP : va_P D vwCl (wX cI cZ q tc nc ac ch U Z B L F) H) (htc : tc ≤ 8) (hnc : nc ≤ 40) (hac : ac ≤ 8) {k : Nat} {z : Bool} (hk0 : 1 ≤ k) (hk : k < pw tc) (h40 : nc < 40) : Met l yX0_wouldChange wsX0_wouldChange ({ frames := 2, cells := 0, slots := 0, locals := 45 }) (va_Pc [.ref (q 0), .int (nI k), .int (bI z)] (rd D vwCl (tyA cI cZ) H)) (vp_Si (fun r => r = (if anyb (fun j => zz U Z nc j && sx (nI j) (nI k) z) (pw tc) = true then nI (ct (fun a => !(sx (B a) (nI k) z) && decide (L a = 0)) ac) else 0))) 0 0 (fun _ => False) := by
  refine Met.ofW (cc := cX0_wouldChange) (maxL := 5) (ret := (some .int)) (by decide) rfl ?_
  intro p e s m args below meth c s₁ B9 hml hv
  obtain ⟨rfl, hH, hK⟩ := hv
  subst hH
  have hx := B9.exec
  have hb := B9.bytes
  have hr := B9.returns
  have hts := atoms_spec (ws := wsX0_wouldChange) B9.pre
  have hown : s.vm.findClass RX0 = some m.cls := findClass_of_methodNamed B9.named
  have hlocks := B9.notSynchronized
  have hin : ∀ w ∈ u_ws RX0 TX0 10, w ∈ wsX0_wouldChange := fun w h => List.mem_cons_of_mem _ (List.mem_append_left _ (List.mem_append_left _ (List.mem_append_right _ h)))
  have hl := lv_entry ([.ref (q 0), .int (nI k), .int (bI z)]) (n := 5) (Nat.le_of_ble_eq_true rfl)
  rw [lg_entry_eq]
  generalize (lg_sl ([.ref (q 0), .int (nI k), .int (bI z)]) ++ List.replicate (5 - (lg_sl ([.ref (q 0), .int (nI k), .int (bI z)])).length) Slot.unset).toArray = ls at hl ⊢
  have hl : lv_has ls 5 [(0, .ref (q 0)), (1, .int (nI k)), (2, .int (bI z))] := hl
  refine lv_aload_n hx hb dX0_wouldChange_0 rfl (lv_at hl 0 rfl) ?_
  refine lv_iload_n hx hb dX0_wouldChange_1 rfl (lv_at hl 1 rfl) ?_
  refine pcV_v (As := [.int (nI k)]) (rest := []) ⟨hx, hb, hml, hown, hts⟩ (g_X_requireUsableSet l hP htc hnc hac hk0 hk) (cwV 1 hts gX0_wouldChange_X0_requireUsableSet rfl rfl rfl hdX0_requireUsableSet ⟨Nat.le_of_ble_eq_true rfl, Nat.le_of_ble_eq_true rfl⟩) (va_recv hK hP (ci := 0) (q0 := 0) rfl rfl) hK rfl hl.1 (Nat.le_of_ble_eq_true rfl) rfl dX0_wouldChange_2 ⟨Nat.le_of_ble_eq_true rfl, Nat.le_of_ble_eq_true rfl⟩ ?_
  refine lv_aload_n hx hb dX0_wouldChange_5 rfl (lv_at hl 0 rfl) ?_
  refine pcV_v (As := []) (rest := []) ⟨hx, hb, hml, hown, hts⟩ (g_X_requireRoomForNight l hP htc hnc hac h40) (cwV 0 hts gX0_wouldChange_X0_requireRoomForNight rfl rfl rfl hdX0_requireRoomForNight ⟨Nat.le_of_ble_eq_true rfl, Nat.le_of_ble_eq_true rfl⟩) (va_recv hK hP (ci := 0) (q0 := 0) rfl rfl) hK rfl hl.1 (Nat.le_of_ble_eq_true rfl) rfl dX0_wouldChange_6 ⟨Nat.le_of_ble_eq_true rfl, Nat.le_of_ble_eq_true rfl⟩ ?_
  refine lv_aload_n hx hb dX0_wouldChange_9 rfl (lv_at hl 0 rfl) ?_
  refine lv_iload_n hx hb dX0_wouldChange_10 rfl (lv_at hl 1 rfl) ?_
  refine lv_iload_n hx hb dX0_wouldChange_11 rfl (lv_at hl 2 rfl) ?_
  refine pcV_i (As := [.int (nI k), .int (bI z)]) (rest := []) ⟨hx, hb, hml, hown, hts⟩ (g_X_wouldAgreeWith l hP htc hnc hac (u := nI k) (z := z)) (cwV 2 hts gX0_wouldChange_X0_wouldAgreeWith rfl rfl rfl hdX0_wouldAgreeWith ⟨Nat.le_of_ble_eq_true rfl, Nat.le_of_ble_eq_true rfl⟩) (va_recv hK hP (ci := 0) (q0 := 0) rfl rfl) hK rfl hl.1 (Nat.le_of_ble_eq_true rfl) rfl dX0_wouldChange_12 ⟨Nat.le_of_ble_eq_true rfl, Nat.le_of_ble_eq_true rfl⟩ ?_
  refine lv_ifb_ne (tgt := 20) hx hb dX0_wouldChange_15 (by decide) (fun c15 => ?_) (fun c15 => ?_)
  · skip
    refine lv_iconst (v := 0) hx hb dX0_wouldChange_20 (by decide) ?_
    refine lv_istore_n (lv' := [(3, .int 0), (0, .ref (q 0)), (1, .int (nI k)), (2, .int (bI z))]) hx hb dX0_wouldChange_21 rfl hl (by decide) rfl (fun ls hl => ?_)
    refine lv_iconst (v := 0) hx hb dX0_wouldChange_22 (by decide) ?_
    refine lv_istore (lv' := [(4, .int 0), (3, .int 0), (0, .ref (q 0)), (1, .int (nI k)), (2, .int (bI z))]) hx hb dX0_wouldChange_23 hl (by decide) rfl (fun ls hl => ?_)
    refine w_loop (N := ac) (T := fun i => [(4, .int (nI i)), (3, .int (nI (ct (fun a => !(sx (B a) (nI k) z) && decide (L a = 0)) i))), (0, .ref (q 0)), (1, .int (nI k)), (2, .int (bI z))]) (I := fun _ => True) 0 (Nat.zero_le _) trivial (lv_sub hl [0, 1, 2, 3, 4] rfl) (fun i ls hi hI hl ih => ?_)
    have hl : lv_has ls 5 [(4, .int (nI i)), (3, .int (nI (ct (fun a => !(sx (B a) (nI k) z) && decide (L a = 0)) i))), (0, .ref (q 0)), (1, .int (nI k)), (2, .int (bI z))] := hl
    refine lv_iload hx hb dX0_wouldChange_25 (lv_at hl 0 rfl) ?_
    refine lv_aload_n hx hb dX0_wouldChange_27 rfl (lv_at hl 2 rfl) ?_
    refine va_get (D := D) (ci := 0) (v := .int (nI ac)) (C := RX0) (T := TX0) (N := 10) hx hb hts hin hown hK hP 0 rfl rfl 5 (by decide) (hts (.fieldLink RX0 27 "SmudgedStar" "astronomerCount" "I") (List.mem_of_getElem? (i := 1) rfl)) (fun _ h9 => h9) rfl dX0_wouldChange_28 ?_
    refine lv_icmp_ge (tgt := 68) hx hb dX0_wouldChange_31 (by decide) (fun c31 => ?_) (fun c31 => ?_)
    · skip
      have hie : i = ac := gd_ge_t (by omega) hi c31
      rw [hie] at hl
      refine lv_iload_n hx hb dX0_wouldChange_68 rfl (lv_at hl 1 rfl) ?_
      exact W.iret (v := nI (ct (fun a => !(sx (B a) (nI k) z) && decide (L a = 0)) ac)) hx hb hr (fun t9 ht9 hW9 => ⟨nI (ct (fun a => !(sx (B a) (nI k) z) && decide (L a = 0)) ac), rfl, (by rw [if_pos c15]), ht9⟩) (fun _ h => absurd h List.not_mem_nil) dX0_wouldChange_69
    · skip
      have hlt : i < ac := gd_ge_f hi c31
      refine lv_aload_n hx hb dX0_wouldChange_34 rfl (lv_at hl 2 rfl) ?_
      refine va_get (D := D) (ci := 0) (v := .ref (q 4)) (C := RX0) (T := TX0) (N := 10) hx hb hts hin hown hK hP 0 rfl rfl 6 (by decide) (hts (.fieldLink RX0 30 "SmudgedStar" "blamedThings" "[I") (List.mem_of_getElem? (i := 2) rfl)) (fun _ h9 => h9) rfl dX0_wouldChange_35 ?_
      refine lv_iload hx hb dX0_wouldChange_38 (lv_at hl 0 rfl) ?_
      refine ia_ld hx hb hK hP 4 0 rfl rfl (j := i) (by omega) (by decide) dX0_wouldChange_40 ?_
      refine lv_iload_n hx hb dX0_wouldChange_41 rfl (lv_at hl 3 rfl) ?_
      refine lv_iload_n hx hb dX0_wouldChange_42 rfl (lv_at hl 4 rfl) ?_
      refine pcS_i (As := [.int (B i), .int (nI k), .int (bI z)]) (rest := []) ⟨hx, hb, hml, hown, hts⟩ (g_X_explains l (B i) (nI k) z) (va_cwS 3 hts gX0_wouldChange_X0_explains rfl rfl rfl hdX0_explains ⟨Nat.le_of_ble_eq_true rfl, Nat.le_of_ble_eq_true rfl⟩) rfl hl.1 (Nat.le_of_ble_eq_true rfl) rfl dX0_wouldChange_43 ⟨Nat.le_of_ble_eq_true rfl, Nat.le_of_ble_eq_true rfl⟩ ?_
      refine lv_ifb_ne (tgt := 62) hx hb dX0_wouldChange_46 (by decide) (fun c46 => ?_) (fun c46 => ?_)
      · skip
        refine lv_iinc (v := nI (i + 1)) (lv' := [(4, .int (nI (i + 1))), (3, .int (nI (ct (fun a => !(sx (B a) (nI k) z) && decide (L a = 0)) i))), (0, .ref (q 0)), (1, .int (nI k)), (2, .int (bI z))]) hx hb dX0_wouldChange_62 hl (k := 0) rfl (nI_1 _) (by decide) rfl (fun ls hl => ?_)
        refine lv_goto (tgt := 25) hx hb dX0_wouldChange_65 (by decide) ?_
        have e3 : (nI (ct (fun a => !(sx (B a) (nI k) z) && decide (L a = 0)) i)) = nI (ct (fun a => !(sx (B a) (nI k) z) && decide (L a = 0)) (i + 1)) := by first | exact ct_t1 (by simp [c15, c31, c46]) | exact ct_t (by simp [c15, c31, c46]) | exact ct_f (by simp [c15, c31, c46]) | exact ct_f0 (by simp [c15, c31, c46])
        have hl := lv_sub (l' := [(4, .int (nI (i + 1))), (3, .int (nI (ct (fun a => !(sx (B a) (nI k) z) && decide (L a = 0)) i))), (0, .ref (q 0)), (1, .int (nI k)), (2, .int (bI z))]) hl [0, 1, 2, 3, 4] rfl
        rw [e3] at hl
        exact ih ls hlt trivial hl
      · skip
        refine lv_aload_n hx hb dX0_wouldChange_49 rfl (lv_at hl 2 rfl) ?_
        refine va_get (D := D) (ci := 0) (v := .ref (q 5)) (C := RX0) (T := TX0) (N := 10) hx hb hts hin hown hK hP 0 rfl rfl 7 (by decide) (hts (.fieldLink RX0 33 "SmudgedStar" "stubbornnessLeft" "[I") (List.mem_of_getElem? (i := 3) rfl)) (fun _ h9 => h9) rfl dX0_wouldChange_50 ?_
        refine lv_iload hx hb dX0_wouldChange_53 (lv_at hl 0 rfl) ?_
        refine ia_ld hx hb hK hP 5 0 rfl rfl (j := i) (by omega) (by decide) dX0_wouldChange_55 ?_
        refine lv_if_ne (tgt := 62) hx hb dX0_wouldChange_56 (by decide) (fun c56 => ?_) (fun c56 => ?_)
        · skip
          refine lv_iinc (v := nI (i + 1)) (lv' := [(4, .int (nI (i + 1))), (3, .int (nI (ct (fun a => !(sx (B a) (nI k) z) && decide (L a = 0)) i))), (0, .ref (q 0)), (1, .int (nI k)), (2, .int (bI z))]) hx hb dX0_wouldChange_62 hl (k := 0) rfl (nI_1 _) (by decide) rfl (fun ls hl => ?_)
          refine lv_goto (tgt := 25) hx hb dX0_wouldChange_65 (by decide) ?_
          have e3 : (nI (ct (fun a => !(sx (B a) (nI k) z) && decide (L a = 0)) i)) = nI (ct (fun a => !(sx (B a) (nI k) z) && decide (L a = 0)) (i + 1)) := by first | exact ct_t1 (by simp [c15, c31, c46, c56]) | exact ct_t (by simp [c15, c31, c46, c56]) | exact ct_f (by simp [c15, c31, c46, c56]) | exact ct_f0 (by simp [c15, c31, c46, c56])
          have hl := lv_sub (l' := [(4, .int (nI (i + 1))), (3, .int (nI (ct (fun a => !(sx (B a) (nI k) z) && decide (L a = 0)) i))), (0, .ref (q 0)), (1, .int (nI k)), (2, .int (bI z))]) hl [0, 1, 2, 3, 4] rfl
          rw [e3] at hl
          exact ih ls hlt trivial hl
        · skip
          refine lv_iinc (v := nI ((ct (fun a => !(sx (B a) (nI k) z) && decide (L a = 0)) i) + 1)) (lv' := [(3, .int (nI ((ct (fun a => !(sx (B a) (nI k) z) && decide (L a = 0)) i) + 1))), (4, .int (nI i)), (0, .ref (q 0)), (1, .int (nI k)), (2, .int (bI z))]) hx hb dX0_wouldChange_59 hl (k := 1) rfl (nI_1 _) (by decide) rfl (fun ls hl => ?_)
          refine lv_iinc (v := nI (i + 1)) (lv' := [(4, .int (nI (i + 1))), (3, .int (nI ((ct (fun a => !(sx (B a) (nI k) z) && decide (L a = 0)) i) + 1))), (0, .ref (q 0)), (1, .int (nI k)), (2, .int (bI z))]) hx hb dX0_wouldChange_62 hl (k := 1) rfl (nI_1 _) (by decide) rfl (fun ls hl => ?_)
          refine lv_goto (tgt := 25) hx hb dX0_wouldChange_65 (by decide) ?_
          have e3 : (nI ((ct (fun a => !(sx (B a) (nI k) z) && decide (L a = 0)) i) + 1)) = nI (ct (fun a => !(sx (B a) (nI k) z) && decide (L a = 0)) (i + 1)) := by first | exact ct_t1 (by simp [c15, c31, c46, c56]) | exact ct_t (by simp [c15, c31, c46, c56]) | exact ct_f (by simp [c15, c31, c46, c56]) | exact ct_f0 (by simp [c15, c31, c46, c56])
          have hl := lv_sub (l' := [(4, .int (nI (i + 1))), (3, .int (nI ((ct (fun a => !(sx (B a) (nI k) z) && decide (L a = 0)) i) + 1))), (0, .ref (q 0)), (1, .int (nI k)), (2, .int (bI z))]) hl [0, 1, 2, 3, 4] rfl
          rw [e3] at hl
          exact ih ls hlt trivial hl
  · skip
    refine lv_iconst (v := 0) hx hb dX0_wouldChange_18 (by decide) ?_
    exact W.iret (v := 0) hx hb hr (fun t9 ht9 hW9 => ⟨0, rfl, (by rw [c15]; rfl), ht9⟩) (fun _ h => absurd h List.not_mem_nil) dX0_wouldChange_19
