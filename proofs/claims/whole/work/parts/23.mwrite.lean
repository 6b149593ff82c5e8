/-! SmudgedStarModel: contracts of its methods -/
set_option maxHeartbeats 4000000 in
set_option maxRecDepth 100000 in
theorem w_M_addThing (l : Launch) {D : va_G} {cI cZ : ClassId} {r : Nat → Nat} {th : Int32} {tc nc ac : Nat} {ch : Int32} {U : Nat → Int32} {Z : Nat → Bool} {B L F : Nat → Int32} {H : Heap} (hP : va_P D vwCl (wM cI cZ r th tc nc ac ch U Z B L F) H) (htc : tc ≤ 8) (hnc : nc ≤ 40) (hac : ac ≤ 8) (hD0 : va_D (fun _ => True) (wM cI cZ r th tc nc ac ch U Z B L F)) (h8 : tc < 8) : Met l yX1_addThing wsX1_addThing ({ frames := 1, cells := 0, slots := 0, locals := 21 }) (va_Pc [.ref (r 0)] (rd D vwCl (tyA cI cZ) H)) (va_Qi (fun r (_ : Unit) => r = nI tc) (fun _ t8 => va_P D vwCl (wM cI cZ r 0 (tc + 1) nc ac ch U Z B L F) t8.heap) (va_A (wM cI cZ r th tc nc ac ch U Z B L F) H.size)) 0 0 (va_A (wM cI cZ r th tc nc ac ch U Z B L F) H.size) := by
  refine Met.ofW (cc := cX1_addThing) (maxL := 1) (ret := (some .int)) (by decide) rfl ?_
  intro p e s m args below meth c s₁ B9 hml hv
  obtain ⟨rfl, hH, hK⟩ := hv
  subst hH
  have hx := B9.exec
  have hb := B9.bytes
  have hr := B9.returns
  have hts := atoms_spec (ws := wsX1_addThing) B9.pre
  have hown : s.vm.findClass RX1 = some m.cls := findClass_of_methodNamed B9.named
  have hlocks := B9.notSynchronized
  have hin : ∀ w ∈ u_ws RX1 TX1 10, w ∈ wsX1_addThing := fun w h => List.mem_cons_of_mem _ (List.mem_append_right _ h)
  have hD0 := hD0.self (sz := s.heap.size)
  generalize hAe : va_A (wM cI cZ r th tc nc ac ch U Z B L F) s.heap.size = A at hD0 ⊢
  have hA : ∀ q : Nat, s.heap.size ≤ q → A q := fun q h => by rw [← hAe]; exact Or.inr h
  have hS : va_S A s.heap s.heap [] := va_S.rf
  have hD := hD0
  have hl := lv_entry ([.ref (r 0)]) (n := 1) (Nat.le_of_ble_eq_true rfl)
  rw [lg_entry_eq]
  generalize (lg_sl ([.ref (r 0)]) ++ List.replicate (1 - (lg_sl ([.ref (r 0)])).length) Slot.unset).toArray = ls at hl ⊢
  have hl : lv_has ls 1 [(0, .ref (r 0))] := hl
  refine lv_aload_n hx hb dX1_addThing_0 rfl (lv_at hl 0 rfl) ?_
  refine lv_iconst (v := 0) hx hb dX1_addThing_1 (by decide) ?_
  refine va_put (D := D) (ci := 1) (v := .int 0) (ty := .int) (C := RX1) (T := TX1) (N := 10) hx hb hts hin tyX1 tyX1_ok nmX1 hown hK hP hD hS 0 rfl rfl 0 (by decide) (hts (.fieldLink RX1 26 "SmudgedStarModel" "thrown" "I") (List.mem_of_getElem? (i := 1) rfl)) (fun _ h9 => h9) rfl (by decide +kernel) rfl rfl (Nat.le_of_ble_eq_true rfl) dX1_addThing_2 (fun H locs hP hD hS => ?_)
  have hP : va_P D vwCl (wM cI cZ r 0 tc nc ac ch U Z B L F) H := hP
  have hD : va_D A (wM cI cZ r 0 tc nc ac ch U Z B L F) := va_D_re hD rfl
  refine lv_aload_n hx hb dX1_addThing_5 rfl (lv_at hl 0 rfl) ?_
  refine va_get (D := D) (ci := 1) (v := .int (nI tc)) (C := RX1) (T := TX1) (N := 10) hx hb hts hin hown hK hP 0 rfl rfl 1 (by decide) (hts (.fieldLink RX1 30 "SmudgedStarModel" "things" "I") (List.mem_of_getElem? (i := 2) rfl)) (fun _ h9 => h9) rfl dX1_addThing_6 ?_
  refine lv_bipush (v := 8) hx hb dX1_addThing_9 (by decide) ?_
  refine lv_icmp_ne (tgt := 20) hx hb dX1_addThing_11 (by decide) (fun c11 => ?_) (fun c11 => absurd ((nI_eq (b := 8) (by omega) (by decide)).mp c11) (by omega))
  refine lv_aload_n hx hb dX1_addThing_20 rfl (lv_at hl 0 rfl) ?_
  refine lv_dup hx hb dX1_addThing_21 rfl ?_
  refine va_get (D := D) (ci := 1) (v := .int (nI tc)) (C := RX1) (T := TX1) (N := 10) hx hb hts hin hown hK hP 0 rfl rfl 1 (by decide) (hts (.fieldLink RX1 30 "SmudgedStarModel" "things" "I") (List.mem_of_getElem? (i := 2) rfl)) (fun _ h9 => h9) rfl dX1_addThing_22 ?_
  refine lv_iconst (v := 1) hx hb dX1_addThing_25 (by decide) ?_
  refine lv_iadd hx hb dX1_addThing_26 ?_
  refine lv_cst (y := nI (tc + 1)) (nI_1 tc) ?_
  refine va_put (D := D) (ci := 1) (v := .int (nI (tc + 1))) (ty := .int) (C := RX1) (T := TX1) (N := 10) hx hb hts hin tyX1 tyX1_ok nmX1 hown hK hP hD hS 0 rfl rfl 1 (by decide) (hts (.fieldLink RX1 30 "SmudgedStarModel" "things" "I") (List.mem_of_getElem? (i := 2) rfl)) (fun _ h9 => h9) rfl (by decide +kernel) rfl rfl (Nat.le_of_ble_eq_true rfl) dX1_addThing_27 (fun H locs hP hD hS => ?_)
  have hP : va_P D vwCl (wM cI cZ r 0 (tc + 1) nc ac ch U Z B L F) H := hP
  have hD : va_D A (wM cI cZ r 0 (tc + 1) nc ac ch U Z B L F) := va_D_re hD rfl
  refine lv_aload_n hx hb dX1_addThing_30 rfl (lv_at hl 0 rfl) ?_
  refine va_get (D := D) (ci := 1) (v := .int (nI (tc + 1))) (C := RX1) (T := TX1) (N := 10) hx hb hts hin hown hK hP 0 rfl rfl 1 (by decide) (hts (.fieldLink RX1 30 "SmudgedStarModel" "things" "I") (List.mem_of_getElem? (i := 2) rfl)) (fun _ h9 => h9) rfl dX1_addThing_31 ?_
  refine lv_iconst (v := 1) hx hb dX1_addThing_34 (by decide) ?_
  refine lv_isub hx hb dX1_addThing_35 ?_
  refine lv_cst (y := nI tc) (nI_pred tc) ?_
  have hPe : va_P D vwCl (wM cI cZ r 0 (tc + 1) nc ac ch U Z B L F) H := hP
  exact W.iret (v := nI tc) hx hb hr (fun t9 ht9 hW9 => ⟨⟨nI tc, (), rfl, rfl, by show va_P D vwCl _ t9.heap; rw [ht9]; exact hPe⟩, hS.F ht9⟩) hS.2.2 dX1_addThing_36
set_option maxHeartbeats 4000000 in
set_option maxRecDepth 100000 in
theorem wb_M_addThing (l : Launch) {D : va_G} {cI cZ : ClassId} {r : Nat → Nat} {th : Int32} {tc nc ac : Nat} {ch : Int32} {U : Nat → Int32} {Z : Nat → Bool} {B L F : Nat → Int32} {H : Heap} (hP : va_P D vwCl (wM cI cZ r th tc nc ac ch U Z B L F) H) (htc : tc ≤ 8) (hnc : nc ≤ 40) (hac : ac ≤ 8) (hD0 : va_D (fun _ => True) (wM cI cZ r th tc nc ac ch U Z B L F)) (h8 : tc = 8) : Met l yX1_addThing wsX1_addThing ({ frames := 1, cells := 0, slots := 0, locals := 21 }) (va_Pc [.ref (r 0)] (rd D vwCl (tyA cI cZ) H)) (va_Qi (fun r (_ : Unit) => r = 0) (fun _ t8 => va_P D vwCl (wM cI cZ r 1 tc nc ac ch U Z B L F) t8.heap) (va_A (wM cI cZ r th tc nc ac ch U Z B L F) H.size)) 0 0 (va_A (wM cI cZ r th tc nc ac ch U Z B L F) H.size) := by
  refine Met.ofW (cc := cX1_addThing) (maxL := 1) (ret := (some .int)) (by decide) rfl ?_
  intro p e s m args below meth c s₁ B9 hml hv
  obtain ⟨rfl, hH, hK⟩ := hv
  subst hH
  have hx := B9.exec
  have hb := B9.bytes
  have hr := B9.returns
  have hts := atoms_spec (ws := wsX1_addThing) B9.pre
  have hown : s.vm.findClass RX1 = some m.cls := findClass_of_methodNamed B9.named
  have hlocks := B9.notSynchronized
  have hin : ∀ w ∈ u_ws RX1 TX1 10, w ∈ wsX1_addThing := fun w h => List.mem_cons_of_mem _ (List.mem_append_right _ h)
  have hD0 := hD0.self (sz := s.heap.size)
  generalize hAe : va_A (wM cI cZ r th tc nc ac ch U Z B L F) s.heap.size = A at hD0 ⊢
  have hA : ∀ q : Nat, s.heap.size ≤ q → A q := fun q h => by rw [← hAe]; exact Or.inr h
  have hS : va_S A s.heap s.heap [] := va_S.rf
  have hD := hD0
  have hl := lv_entry ([.ref (r 0)]) (n := 1) (Nat.le_of_ble_eq_true rfl)
  rw [lg_entry_eq]
  generalize (lg_sl ([.ref (r 0)]) ++ List.replicate (1 - (lg_sl ([.ref (r 0)])).length) Slot.unset).toArray = ls at hl ⊢
  have hl : lv_has ls 1 [(0, .ref (r 0))] := hl
  refine lv_aload_n hx hb dX1_addThing_0 rfl (lv_at hl 0 rfl) ?_
  refine lv_iconst (v := 0) hx hb dX1_addThing_1 (by decide) ?_
  refine va_put (D := D) (ci := 1) (v := .int 0) (ty := .int) (C := RX1) (T := TX1) (N := 10) hx hb hts hin tyX1 tyX1_ok nmX1 hown hK hP hD hS 0 rfl rfl 0 (by decide) (hts (.fieldLink RX1 26 "SmudgedStarModel" "thrown" "I") (List.mem_of_getElem? (i := 1) rfl)) (fun _ h9 => h9) rfl (by decide +kernel) rfl rfl (Nat.le_of_ble_eq_true rfl) dX1_addThing_2 (fun H locs hP hD hS => ?_)
  have hP : va_P D vwCl (wM cI cZ r 0 tc nc ac ch U Z B L F) H := hP
  have hD : va_D A (wM cI cZ r 0 tc nc ac ch U Z B L F) := va_D_re hD rfl
  refine lv_aload_n hx hb dX1_addThing_5 rfl (lv_at hl 0 rfl) ?_
  refine va_get (D := D) (ci := 1) (v := .int (nI tc)) (C := RX1) (T := TX1) (N := 10) hx hb hts hin hown hK hP 0 rfl rfl 1 (by decide) (hts (.fieldLink RX1 30 "SmudgedStarModel" "things" "I") (List.mem_of_getElem? (i := 2) rfl)) (fun _ h9 => h9) rfl dX1_addThing_6 ?_
  refine lv_bipush (v := 8) hx hb dX1_addThing_9 (by decide) ?_
  refine lv_icmp_ne (tgt := 20) hx hb dX1_addThing_11 (by decide) (fun c11 => absurd (by rw [h8]; rfl) c11) (fun c11 => ?_)
  refine lv_aload_n hx hb dX1_addThing_14 rfl (lv_at hl 0 rfl) ?_
  refine lv_iconst (v := 1) hx hb dX1_addThing_15 (by decide) ?_
  refine wcV_i (As := [.int 1]) (rest := []) ⟨hx, hb, hml, hown, hts⟩ (w_M_no l hP htc hnc hac (hD.weaken (fun _ _ _ _ => trivial)) (v := 1)) (cwV 1 hts gX1_addThing_X1_no rfl rfl rfl hdX1_no ⟨Nat.le_of_ble_eq_true rfl, Nat.le_of_ble_eq_true rfl⟩) (va_recv hK hP (ci := 1) (q0 := 0) rfl rfl) hK hS (va_free_all hD hS hA) rfl hl.1 (Nat.le_of_ble_eq_true rfl) rfl dX1_addThing_16 ⟨Nat.le_of_ble_eq_true rfl, Nat.le_of_ble_eq_true rfl⟩ (fun H locs hP hz1 hk1 hS => ?_)
  have hP : va_P D vwCl (wM cI cZ r 1 tc nc ac ch U Z B L F) H := hP
  have hD : va_D A (wM cI cZ r 1 tc nc ac ch U Z B L F) := va_D_re hD rfl
  have hPe : va_P D vwCl (wM cI cZ r 1 tc nc ac ch U Z B L F) H := hP
  exact W.iret (v := 0) hx hb hr (fun t9 ht9 hW9 => ⟨⟨0, (), rfl, rfl, by show va_P D vwCl _ t9.heap; rw [ht9]; exact hPe⟩, hS.F ht9⟩) hS.2.2 dX1_addThing_19
set_option maxHeartbeats 4000000 in
set_option maxRecDepth 100000 in
theorem w_M_addAstronomer (l : Launch) {D : va_G} {cI cZ : ClassId} {r : Nat → Nat} {th : Int32} {tc nc ac : Nat} {ch : Int32} {U : Nat → Int32} {Z : Nat → Bool} {B L F : Nat → Int32} {H : Heap} (hP : va_P D vwCl (wM cI cZ r th tc nc ac ch U Z B L F) H) (htc : tc ≤ 8) (hnc : nc ≤ 40) (hac : ac ≤ 8) (hD0 : va_D (fun _ => True) (wM cI cZ r th tc nc ac ch U Z B L F)) {v : Int32} (hv0 : ¬ v < 0) (hv5 : v ≤ 5) (h8 : ac < 8) : Met l yX1_addAstronomer wsX1_addAstronomer ({ frames := 1, cells := 0, slots := 0, locals := 22 }) (va_Pc [.ref (r 0), .int v] (rd D vwCl (tyA cI cZ) H)) (va_Qi (fun r (_ : Unit) => r = nI ac) (fun _ t8 => va_P D vwCl (wM cI cZ r 0 tc nc (ac + 1) ch U Z B (upd L ac v) (upd F ac v)) t8.heap) (va_A (wM cI cZ r th tc nc ac ch U Z B L F) H.size)) 0 0 (va_A (wM cI cZ r th tc nc ac ch U Z B L F) H.size) := by
  refine Met.ofW (cc := cX1_addAstronomer) (maxL := 2) (ret := (some .int)) (by decide) rfl ?_
  intro p e s m args below meth c s₁ B9 hml hv
  obtain ⟨rfl, hH, hK⟩ := hv
  subst hH
  have hx := B9.exec
  have hb := B9.bytes
  have hr := B9.returns
  have hts := atoms_spec (ws := wsX1_addAstronomer) B9.pre
  have hown : s.vm.findClass RX1 = some m.cls := findClass_of_methodNamed B9.named
  have hlocks := B9.notSynchronized
  have hin : ∀ w ∈ u_ws RX1 TX1 10, w ∈ wsX1_addAstronomer := fun w h => List.mem_cons_of_mem _ (List.mem_append_right _ h)
  have hD0 := hD0.self (sz := s.heap.size)
  generalize hAe : va_A (wM cI cZ r th tc nc ac ch U Z B L F) s.heap.size = A at hD0 ⊢
  have hA : ∀ q : Nat, s.heap.size ≤ q → A q := fun q h => by rw [← hAe]; exact Or.inr h
  have hS : va_S A s.heap s.heap [] := va_S.rf
  have hD := hD0
  have hl := lv_entry ([.ref (r 0), .int v]) (n := 2) (Nat.le_of_ble_eq_true rfl)
  rw [lg_entry_eq]
  generalize (lg_sl ([.ref (r 0), .int v]) ++ List.replicate (2 - (lg_sl ([.ref (r 0), .int v])).length) Slot.unset).toArray = ls at hl ⊢
  have hl : lv_has ls 2 [(0, .ref (r 0)), (1, .int v)] := hl
  refine lv_aload_n hx hb dX1_addAstronomer_0 rfl (lv_at hl 0 rfl) ?_
  refine lv_iconst (v := 0) hx hb dX1_addAstronomer_1 (by decide) ?_
  refine va_put (D := D) (ci := 1) (v := .int 0) (ty := .int) (C := RX1) (T := TX1) (N := 10) hx hb hts hin tyX1 tyX1_ok nmX1 hown hK hP hD hS 0 rfl rfl 0 (by decide) (hts (.fieldLink RX1 26 "SmudgedStarModel" "thrown" "I") (List.mem_of_getElem? (i := 1) rfl)) (fun _ h9 => h9) rfl (by decide +kernel) rfl rfl (Nat.le_of_ble_eq_true rfl) dX1_addAstronomer_2 (fun H locs hP hD hS => ?_)
  have hP : va_P D vwCl (wM cI cZ r 0 tc nc ac ch U Z B L F) H := hP
  have hD : va_D A (wM cI cZ r 0 tc nc ac ch U Z B L F) := va_D_re hD rfl
  refine lv_iload_n hx hb dX1_addAstronomer_5 rfl (lv_at hl 1 rfl) ?_
  refine lv_iconst (v := 0) hx hb dX1_addAstronomer_6 (by decide) ?_
  refine lv_iconst (v := 5) hx hb dX1_addAstronomer_7 (by decide) ?_
  refine pcS_i (As := [.int v, .int 0, .int 5]) (rest := []) ⟨hx, hb, hml, hown, hts⟩ (g_M_isIn l v 0 5) (va_cwS 3 hts gX1_addAstronomer_X1_isIn rfl rfl rfl hdX1_isIn ⟨Nat.le_of_ble_eq_true rfl, Nat.le_of_ble_eq_true rfl⟩) rfl hl.1 (Nat.le_of_ble_eq_true rfl) rfl dX1_addAstronomer_8 ⟨Nat.le_of_ble_eq_true rfl, Nat.le_of_ble_eq_true rfl⟩ ?_
  refine lv_ifb_ne (tgt := 20) hx hb dX1_addAstronomer_11 (by decide) (fun c11 => ?_) (fun c11 => absurd (c11.symm.trans (rg_5 hv0 hv5)) (by decide))
  refine lv_aload_n hx hb dX1_addAstronomer_20 rfl (lv_at hl 0 rfl) ?_
  refine va_get (D := D) (ci := 1) (v := .int (nI ac)) (C := RX1) (T := TX1) (N := 10) hx hb hts hin hown hK hP 0 rfl rfl 5 (by decide) (hts (.fieldLink RX1 40 "SmudgedStarModel" "astronomers" "I") (List.mem_of_getElem? (i := 2) rfl)) (fun _ h9 => h9) rfl dX1_addAstronomer_21 ?_
  refine lv_bipush (v := 8) hx hb dX1_addAstronomer_24 (by decide) ?_
  refine lv_icmp_ne (tgt := 35) hx hb dX1_addAstronomer_26 (by decide) (fun c26 => ?_) (fun c26 => absurd ((nI_eq (b := 8) (by omega) (by decide)).mp c26) (by omega))
  refine lv_aload_n hx hb dX1_addAstronomer_35 rfl (lv_at hl 0 rfl) ?_
  refine va_get (D := D) (ci := 1) (v := .ref (r 3)) (C := RX1) (T := TX1) (N := 10) hx hb hts hin hown hK hP 0 rfl rfl 6 (by decide) (hts (.fieldLink RX1 17 "SmudgedStarModel" "first" "[I") (List.mem_of_getElem? (i := 3) rfl)) (fun _ h9 => h9) rfl dX1_addAstronomer_36 ?_
  refine lv_aload_n hx hb dX1_addAstronomer_39 rfl (lv_at hl 0 rfl) ?_
  refine va_get (D := D) (ci := 1) (v := .int (nI ac)) (C := RX1) (T := TX1) (N := 10) hx hb hts hin hown hK hP 0 rfl rfl 5 (by decide) (hts (.fieldLink RX1 40 "SmudgedStarModel" "astronomers" "I") (List.mem_of_getElem? (i := 2) rfl)) (fun _ h9 => h9) rfl dX1_addAstronomer_40 ?_
  refine lv_iload_n hx hb dX1_addAstronomer_43 rfl (lv_at hl 1 rfl) ?_
  refine ia_st hx hb hK hP hD hS 3 0 rfl rfl (j := ac) (by omega) (by decide) dX1_addAstronomer_44 (fun H locs hP hS => ?_)
  have hP : va_P D vwCl (wM cI cZ r 0 tc nc ac ch U Z B L (upd F ac v)) H := hP
  have hD : va_D A (wM cI cZ r 0 tc nc ac ch U Z B L (upd F ac v)) := va_D_re hD rfl
  refine lv_aload_n hx hb dX1_addAstronomer_45 rfl (lv_at hl 0 rfl) ?_
  refine va_get (D := D) (ci := 1) (v := .ref (r 4)) (C := RX1) (T := TX1) (N := 10) hx hb hts hin hown hK hP 0 rfl rfl 7 (by decide) (hts (.fieldLink RX1 20 "SmudgedStarModel" "left" "[I") (List.mem_of_getElem? (i := 4) rfl)) (fun _ h9 => h9) rfl dX1_addAstronomer_46 ?_
  refine lv_aload_n hx hb dX1_addAstronomer_49 rfl (lv_at hl 0 rfl) ?_
  refine va_get (D := D) (ci := 1) (v := .int (nI ac)) (C := RX1) (T := TX1) (N := 10) hx hb hts hin hown hK hP 0 rfl rfl 5 (by decide) (hts (.fieldLink RX1 40 "SmudgedStarModel" "astronomers" "I") (List.mem_of_getElem? (i := 2) rfl)) (fun _ h9 => h9) rfl dX1_addAstronomer_50 ?_
  refine lv_iload_n hx hb dX1_addAstronomer_53 rfl (lv_at hl 1 rfl) ?_
  refine ia_st hx hb hK hP hD hS 4 0 rfl rfl (j := ac) (by omega) (by decide) dX1_addAstronomer_54 (fun H locs hP hS => ?_)
  have hP : va_P D vwCl (wM cI cZ r 0 tc nc ac ch U Z B (upd L ac v) (upd F ac v)) H := hP
  have hD : va_D A (wM cI cZ r 0 tc nc ac ch U Z B (upd L ac v) (upd F ac v)) := va_D_re hD rfl
  refine lv_aload_n hx hb dX1_addAstronomer_55 rfl (lv_at hl 0 rfl) ?_
  refine lv_dup hx hb dX1_addAstronomer_56 rfl ?_
  refine va_get (D := D) (ci := 1) (v := .int (nI ac)) (C := RX1) (T := TX1) (N := 10) hx hb hts hin hown hK hP 0 rfl rfl 5 (by decide) (hts (.fieldLink RX1 40 "SmudgedStarModel" "astronomers" "I") (List.mem_of_getElem? (i := 2) rfl)) (fun _ h9 => h9) rfl dX1_addAstronomer_57 ?_
  refine lv_iconst (v := 1) hx hb dX1_addAstronomer_60 (by decide) ?_
  refine lv_iadd hx hb dX1_addAstronomer_61 ?_
  refine lv_cst (y := nI (ac + 1)) (nI_1 ac) ?_
  refine va_put (D := D) (ci := 1) (v := .int (nI (ac + 1))) (ty := .int) (C := RX1) (T := TX1) (N := 10) hx hb hts hin tyX1 tyX1_ok nmX1 hown hK hP hD hS 0 rfl rfl 5 (by decide) (hts (.fieldLink RX1 40 "SmudgedStarModel" "astronomers" "I") (List.mem_of_getElem? (i := 2) rfl)) (fun _ h9 => h9) rfl (by decide +kernel) rfl rfl (Nat.le_of_ble_eq_true rfl) dX1_addAstronomer_62 (fun H locs hP hD hS => ?_)
  have hP : va_P D vwCl (wM cI cZ r 0 tc nc (ac + 1) ch U Z B (upd L ac v) (upd F ac v)) H := hP
  have hD : va_D A (wM cI cZ r 0 tc nc (ac + 1) ch U Z B (upd L ac v) (upd F ac v)) := va_D_re hD rfl
  refine lv_aload_n hx hb dX1_addAstronomer_65 rfl (lv_at hl 0 rfl) ?_
  refine va_get (D := D) (ci := 1) (v := .int (nI (ac + 1))) (C := RX1) (T := TX1) (N := 10) hx hb hts hin hown hK hP 0 rfl rfl 5 (by decide) (hts (.fieldLink RX1 40 "SmudgedStarModel" "astronomers" "I") (List.mem_of_getElem? (i := 2) rfl)) (fun _ h9 => h9) rfl dX1_addAstronomer_66 ?_
  refine lv_iconst (v := 1) hx hb dX1_addAstronomer_69 (by decide) ?_
  refine lv_isub hx hb dX1_addAstronomer_70 ?_
  refine lv_cst (y := nI ac) (nI_pred ac) ?_
  have hPe : va_P D vwCl (wM cI cZ r 0 tc nc (ac + 1) ch U Z B (upd L ac v) (upd F ac v)) H := hP
  exact W.iret (v := nI ac) hx hb hr (fun t9 ht9 hW9 => ⟨⟨nI ac, (), rfl, rfl, by show va_P D vwCl _ t9.heap; rw [ht9]; exact hPe⟩, hS.F ht9⟩) hS.2.2 dX1_addAstronomer_71
set_option maxHeartbeats 4000000 in
set_option maxRecDepth 100000 in
theorem wb_M_addAstronomer (l : Launch) {D : va_G} {cI cZ : ClassId} {r : Nat → Nat} {th : Int32} {tc nc ac : Nat} {ch : Int32} {U : Nat → Int32} {Z : Nat → Bool} {B L F : Nat → Int32} {H : Heap} (hP : va_P D vwCl (wM cI cZ r th tc nc ac ch U Z B L F) H) (htc : tc ≤ 8) (hnc : nc ≤ 40) (hac : ac ≤ 8) (hD0 : va_D (fun _ => True) (wM cI cZ r th tc nc ac ch U Z B L F)) {v : Int32} (hv : v < 0 ∨ 5 < v) : Met l yX1_addAstronomer wsX1_addAstronomer ({ frames := 1, cells := 0, slots := 0, locals := 22 }) (va_Pc [.ref (r 0), .int v] (rd D vwCl (tyA cI cZ) H)) (va_Qi (fun r (_ : Unit) => r = 0) (fun _ t8 => va_P D vwCl (wM cI cZ r 1 tc nc ac ch U Z B L F) t8.heap) (va_A (wM cI cZ r th tc nc ac ch U Z B L F) H.size)) 0 0 (va_A (wM cI cZ r th tc nc ac ch U Z B L F) H.size) := by
  refine Met.ofW (cc := cX1_addAstronomer) (maxL := 2) (ret := (some .int)) (by decide) rfl ?_
  intro p e s m args below meth c s₁ B9 hml hv
  obtain ⟨rfl, hH, hK⟩ := hv
  subst hH
  have hx := B9.exec
  have hb := B9.bytes
  have hr := B9.returns
  have hts := atoms_spec (ws := wsX1_addAstronomer) B9.pre
  have hown : s.vm.findClass RX1 = some m.cls := findClass_of_methodNamed B9.named
  have hlocks := B9.notSynchronized
  have hin : ∀ w ∈ u_ws RX1 TX1 10, w ∈ wsX1_addAstronomer := fun w h => List.mem_cons_of_mem _ (List.mem_append_right _ h)
  have hD0 := hD0.self (sz := s.heap.size)
  generalize hAe : va_A (wM cI cZ r th tc nc ac ch U Z B L F) s.heap.size = A at hD0 ⊢
  have hA : ∀ q : Nat, s.heap.size ≤ q → A q := fun q h => by rw [← hAe]; exact Or.inr h
  have hS : va_S A s.heap s.heap [] := va_S.rf
  have hD := hD0
  have hl := lv_entry ([.ref (r 0), .int v]) (n := 2) (Nat.le_of_ble_eq_true rfl)
  rw [lg_entry_eq]
  generalize (lg_sl ([.ref (r 0), .int v]) ++ List.replicate (2 - (lg_sl ([.ref (r 0), .int v])).length) Slot.unset).toArray = ls at hl ⊢
  have hl : lv_has ls 2 [(0, .ref (r 0)), (1, .int v)] := hl
  refine lv_aload_n hx hb dX1_addAstronomer_0 rfl (lv_at hl 0 rfl) ?_
  refine lv_iconst (v := 0) hx hb dX1_addAstronomer_1 (by decide) ?_
  refine va_put (D := D) (ci := 1) (v := .int 0) (ty := .int) (C := RX1) (T := TX1) (N := 10) hx hb hts hin tyX1 tyX1_ok nmX1 hown hK hP hD hS 0 rfl rfl 0 (by decide) (hts (.fieldLink RX1 26 "SmudgedStarModel" "thrown" "I") (List.mem_of_getElem? (i := 1) rfl)) (fun _ h9 => h9) rfl (by decide +kernel) rfl rfl (Nat.le_of_ble_eq_true rfl) dX1_addAstronomer_2 (fun H locs hP hD hS => ?_)
  have hP : va_P D vwCl (wM cI cZ r 0 tc nc ac ch U Z B L F) H := hP
  have hD : va_D A (wM cI cZ r 0 tc nc ac ch U Z B L F) := va_D_re hD rfl
  refine lv_iload_n hx hb dX1_addAstronomer_5 rfl (lv_at hl 1 rfl) ?_
  refine lv_iconst (v := 0) hx hb dX1_addAstronomer_6 (by decide) ?_
  refine lv_iconst (v := 5) hx hb dX1_addAstronomer_7 (by decide) ?_
  refine pcS_i (As := [.int v, .int 0, .int 5]) (rest := []) ⟨hx, hb, hml, hown, hts⟩ (g_M_isIn l v 0 5) (va_cwS 3 hts gX1_addAstronomer_X1_isIn rfl rfl rfl hdX1_isIn ⟨Nat.le_of_ble_eq_true rfl, Nat.le_of_ble_eq_true rfl⟩) rfl hl.1 (Nat.le_of_ble_eq_true rfl) rfl dX1_addAstronomer_8 ⟨Nat.le_of_ble_eq_true rfl, Nat.le_of_ble_eq_true rfl⟩ ?_
  refine lv_ifb_ne (tgt := 20) hx hb dX1_addAstronomer_11 (by decide) (fun c11 => absurd (c11.symm.trans (rg_off hv)) (by decide)) (fun c11 => ?_)
  refine lv_aload_n hx hb dX1_addAstronomer_14 rfl (lv_at hl 0 rfl) ?_
  refine lv_iconst (v := 1) hx hb dX1_addAstronomer_15 (by decide) ?_
  refine wcV_i (As := [.int 1]) (rest := []) ⟨hx, hb, hml, hown, hts⟩ (w_M_no l hP htc hnc hac (hD.weaken (fun _ _ _ _ => trivial)) (v := 1)) (cwV 1 hts gX1_addAstronomer_X1_no rfl rfl rfl hdX1_no ⟨Nat.le_of_ble_eq_true rfl, Nat.le_of_ble_eq_true rfl⟩) (va_recv hK hP (ci := 1) (q0 := 0) rfl rfl) hK hS (va_free_all hD hS hA) rfl hl.1 (Nat.le_of_ble_eq_true rfl) rfl dX1_addAstronomer_16 ⟨Nat.le_of_ble_eq_true rfl, Nat.le_of_ble_eq_true rfl⟩ (fun H locs hP hz1 hk1 hS => ?_)
  have hP : va_P D vwCl (wM cI cZ r 1 tc nc ac ch U Z B L F) H := hP
  have hD : va_D A (wM cI cZ r 1 tc nc ac ch U Z B L F) := va_D_re hD rfl
  have hPe : va_P D vwCl (wM cI cZ r 1 tc nc ac ch U Z B L F) H := hP
  exact W.iret (v := 0) hx hb hr (fun t9 ht9 hW9 => ⟨⟨0, (), rfl, rfl, by show va_P D vwCl _ t9.heap; rw [ht9]; exact hPe⟩, hS.F ht9⟩) hS.2.2 dX1_addAstronomer_19
set_option maxHeartbeats 4000000 in
set_option maxRecDepth 100000 in
theorem wb2_M_addAstronomer (l : Launch) {D : va_G} {cI cZ : ClassId} {r : Nat → Nat} {th : Int32} {tc nc ac : Nat} {ch : Int32} {U : Nat → Int32} {Z : Nat → Bool} {B L F : Nat → Int32} {H : Heap} (hP : va_P D vwCl (wM cI cZ r th tc nc ac ch U Z B L F) H) (htc : tc ≤ 8) (hnc : nc ≤ 40) (hac : ac ≤ 8) (hD0 : va_D (fun _ => True) (wM cI cZ r th tc nc ac ch U Z B L F)) {v : Int32} (hv0 : ¬ v < 0) (hv5 : v ≤ 5) (h8 : ac = 8) : Met l yX1_addAstronomer wsX1_addAstronomer ({ frames := 1, cells := 0, slots := 0, locals := 22 }) (va_Pc [.ref (r 0), .int v] (rd D vwCl (tyA cI cZ) H)) (va_Qi (fun r (_ : Unit) => r = 0) (fun _ t8 => va_P D vwCl (wM cI cZ r 2 tc nc ac ch U Z B L F) t8.heap) (va_A (wM cI cZ r th tc nc ac ch U Z B L F) H.size)) 0 0 (va_A (wM cI cZ r th tc nc ac ch U Z B L F) H.size) := by
  refine Met.ofW (cc := cX1_addAstronomer) (maxL := 2) (ret := (some .int)) (by decide) rfl ?_
  intro p e s m args below meth c s₁ B9 hml hv
  obtain ⟨rfl, hH, hK⟩ := hv
  subst hH
  have hx := B9.exec
  have hb := B9.bytes
  have hr := B9.returns
  have hts := atoms_spec (ws := wsX1_addAstronomer) B9.pre
  have hown : s.vm.findClass RX1 = some m.cls := findClass_of_methodNamed B9.named
  have hlocks := B9.notSynchronized
  have hin : ∀ w ∈ u_ws RX1 TX1 10, w ∈ wsX1_addAstronomer := fun w h => List.mem_cons_of_mem _ (List.mem_append_right _ h)
  have hD0 := hD0.self (sz := s.heap.size)
  generalize hAe : va_A (wM cI cZ r th tc nc ac ch U Z B L F) s.heap.size = A at hD0 ⊢
  have hA : ∀ q : Nat, s.heap.size ≤ q → A q := fun q h => by rw [← hAe]; exact Or.inr h
  have hS : va_S A s.heap s.heap [] := va_S.rf
  have hD := hD0
  have hl := lv_entry ([.ref (r 0), .int v]) (n := 2) (Nat.le_of_ble_eq_true rfl)
  rw [lg_entry_eq]
  generalize (lg_sl ([.ref (r 0), .int v]) ++ List.replicate (2 - (lg_sl ([.ref (r 0), .int v])).length) Slot.unset).toArray = ls at hl ⊢
  have hl : lv_has ls 2 [(0, .ref (r 0)), (1, .int v)] := hl
  refine lv_aload_n hx hb dX1_addAstronomer_0 rfl (lv_at hl 0 rfl) ?_
  refine lv_iconst (v := 0) hx hb dX1_addAstronomer_1 (by decide) ?_
  refine va_put (D := D) (ci := 1) (v := .int 0) (ty := .int) (C := RX1) (T := TX1) (N := 10) hx hb hts hin tyX1 tyX1_ok nmX1 hown hK hP hD hS 0 rfl rfl 0 (by decide) (hts (.fieldLink RX1 26 "SmudgedStarModel" "thrown" "I") (List.mem_of_getElem? (i := 1) rfl)) (fun _ h9 => h9) rfl (by decide +kernel) rfl rfl (Nat.le_of_ble_eq_true rfl) dX1_addAstronomer_2 (fun H locs hP hD hS => ?_)
  have hP : va_P D vwCl (wM cI cZ r 0 tc nc ac ch U Z B L F) H := hP
  have hD : va_D A (wM cI cZ r 0 tc nc ac ch U Z B L F) := va_D_re hD rfl
  refine lv_iload_n hx hb dX1_addAstronomer_5 rfl (lv_at hl 1 rfl) ?_
  refine lv_iconst (v := 0) hx hb dX1_addAstronomer_6 (by decide) ?_
  refine lv_iconst (v := 5) hx hb dX1_addAstronomer_7 (by decide) ?_
  refine pcS_i (As := [.int v, .int 0, .int 5]) (rest := []) ⟨hx, hb, hml, hown, hts⟩ (g_M_isIn l v 0 5) (va_cwS 3 hts gX1_addAstronomer_X1_isIn rfl rfl rfl hdX1_isIn ⟨Nat.le_of_ble_eq_true rfl, Nat.le_of_ble_eq_true rfl⟩) rfl hl.1 (Nat.le_of_ble_eq_true rfl) rfl dX1_addAstronomer_8 ⟨Nat.le_of_ble_eq_true rfl, Nat.le_of_ble_eq_true rfl⟩ ?_
  refine lv_ifb_ne (tgt := 20) hx hb dX1_addAstronomer_11 (by decide) (fun c11 => ?_) (fun c11 => absurd (c11.symm.trans (rg_5 hv0 hv5)) (by decide))
  refine lv_aload_n hx hb dX1_addAstronomer_20 rfl (lv_at hl 0 rfl) ?_
  refine va_get (D := D) (ci := 1) (v := .int (nI ac)) (C := RX1) (T := TX1) (N := 10) hx hb hts hin hown hK hP 0 rfl rfl 5 (by decide) (hts (.fieldLink RX1 40 "SmudgedStarModel" "astronomers" "I") (List.mem_of_getElem? (i := 2) rfl)) (fun _ h9 => h9) rfl dX1_addAstronomer_21 ?_
  refine lv_bipush (v := 8) hx hb dX1_addAstronomer_24 (by decide) ?_
  refine lv_icmp_ne (tgt := 35) hx hb dX1_addAstronomer_26 (by decide) (fun c26 => absurd (by rw [h8]; rfl) c26) (fun c26 => ?_)
  refine lv_aload_n hx hb dX1_addAstronomer_29 rfl (lv_at hl 0 rfl) ?_
  refine lv_iconst (v := 2) hx hb dX1_addAstronomer_30 (by decide) ?_
  refine wcV_i (As := [.int 2]) (rest := []) ⟨hx, hb, hml, hown, hts⟩ (w_M_no l hP htc hnc hac (hD.weaken (fun _ _ _ _ => trivial)) (v := 2)) (cwV 1 hts gX1_addAstronomer_X1_no rfl rfl rfl hdX1_no ⟨Nat.le_of_ble_eq_true rfl, Nat.le_of_ble_eq_true rfl⟩) (va_recv hK hP (ci := 1) (q0 := 0) rfl rfl) hK hS (va_free_all hD hS hA) rfl hl.1 (Nat.le_of_ble_eq_true rfl) rfl dX1_addAstronomer_31 ⟨Nat.le_of_ble_eq_true rfl, Nat.le_of_ble_eq_true rfl⟩ (fun H locs hP hz1 hk1 hS => ?_)
  have hP : va_P D vwCl (wM cI cZ r 2 tc nc ac ch U Z B L F) H := hP
  have hD : va_D A (wM cI cZ r 2 tc nc ac ch U Z B L F) := va_D_re hD rfl
  have hPe : va_P D vwCl (wM cI cZ r 2 tc nc ac ch U Z B L F) H := hP
  exact W.iret (v := 0) hx hb hr (fun t9 ht9 hW9 => ⟨⟨0, (), rfl, rfl, by show va_P D vwCl _ t9.heap; rw [ht9]; exact hPe⟩, hS.F ht9⟩) hS.2.2 dX1_addAstronomer_34
set_option maxHeartbeats 4000000 in
set_option maxRecDepth 100000 in
theorem w_M_blame (l : Launch) {D : va_G} {cI cZ : ClassId} {r : Nat → Nat} {th : Int32} {tc nc ac : Nat} {ch : Int32} {U : Nat → Int32} {Z : Nat → Bool} {B L F : Nat → Int32} {H : Heap} (hP : va_P D vwCl (wM cI cZ r th tc nc ac ch U Z B L F) H) (htc : tc ≤ 8) (hnc : nc ≤ 40) (hac : ac ≤ 8) (hD0 : va_D (fun _ => True) (wM cI cZ r th tc nc ac ch U Z B L F)) {t k : Nat} (ht : t < ac) (hk : k < pw tc) : Met l yX1_blame wsX1_blame ({ frames := 2, cells := 0, slots := 0, locals := 43 }) (va_Pc [.ref (r 0), .int (nI t), .int (nI k)] (rd D vwCl (tyA cI cZ) H)) (va_Qi (fun r (_ : Unit) => r = B t) (fun _ t8 => va_P D vwCl (wM cI cZ r 0 tc nc ac ch U Z (upd B t (nI k)) (upd L t (F t)) F) t8.heap) (va_A (wM cI cZ r th tc nc ac ch U Z B L F) H.size)) 0 0 (va_A (wM cI cZ r th tc nc ac ch U Z B L F) H.size) := by
  refine Met.ofW (cc := cX1_blame) (maxL := 4) (ret := (some .int)) (by decide) rfl ?_
  intro p e s m args below meth c s₁ B9 hml hv
  obtain ⟨rfl, hH, hK⟩ := hv
  subst hH
  have hx := B9.exec
  have hb := B9.bytes
  have hr := B9.returns
  have hts := atoms_spec (ws := wsX1_blame) B9.pre
  have hown : s.vm.findClass RX1 = some m.cls := findClass_of_methodNamed B9.named
  have hlocks := B9.notSynchronized
  have hin : ∀ w ∈ u_ws RX1 TX1 10, w ∈ wsX1_blame := fun w h => List.mem_cons_of_mem _ (List.mem_append_right _ h)
  have hD0 := hD0.self (sz := s.heap.size)
  generalize hAe : va_A (wM cI cZ r th tc nc ac ch U Z B L F) s.heap.size = A at hD0 ⊢
  have hA : ∀ q : Nat, s.heap.size ≤ q → A q := fun q h => by rw [← hAe]; exact Or.inr h
  have hS : va_S A s.heap s.heap [] := va_S.rf
  have hD := hD0
  have hl := lv_entry ([.ref (r 0), .int (nI t), .int (nI k)]) (n := 4) (Nat.le_of_ble_eq_true rfl)
  rw [lg_entry_eq]
  generalize (lg_sl ([.ref (r 0), .int (nI t), .int (nI k)]) ++ List.replicate (4 - (lg_sl ([.ref (r 0), .int (nI t), .int (nI k)])).length) Slot.unset).toArray = ls at hl ⊢
  have hl : lv_has ls 4 [(0, .ref (r 0)), (1, .int (nI t)), (2, .int (nI k))] := hl
  have hpw := pw_in htc
  refine lv_aload_n hx hb dX1_blame_0 rfl (lv_at hl 0 rfl) ?_
  refine lv_iconst (v := 0) hx hb dX1_blame_1 (by decide) ?_
  refine va_put (D := D) (ci := 1) (v := .int 0) (ty := .int) (C := RX1) (T := TX1) (N := 10) hx hb hts hin tyX1 tyX1_ok nmX1 hown hK hP hD hS 0 rfl rfl 0 (by decide) (hts (.fieldLink RX1 26 "SmudgedStarModel" "thrown" "I") (List.mem_of_getElem? (i := 1) rfl)) (fun _ h9 => h9) rfl (by decide +kernel) rfl rfl (Nat.le_of_ble_eq_true rfl) dX1_blame_2 (fun H locs hP hD hS => ?_)
  have hP : va_P D vwCl (wM cI cZ r 0 tc nc ac ch U Z B L F) H := hP
  have hD : va_D A (wM cI cZ r 0 tc nc ac ch U Z B L F) := va_D_re hD rfl
  refine lv_aload_n hx hb dX1_blame_5 rfl (lv_at hl 0 rfl) ?_
  refine lv_iload_n hx hb dX1_blame_6 rfl (lv_at hl 1 rfl) ?_
  refine pcV_i (As := [.int (nI t)]) (rest := []) ⟨hx, hb, hml, hown, hts⟩ (g_M_isAstronomer l hP htc hnc hac (v := nI t)) (cwV 1 hts gX1_blame_X1_isAstronomer rfl rfl rfl hdX1_isAstronomer ⟨Nat.le_of_ble_eq_true rfl, Nat.le_of_ble_eq_true rfl⟩) (va_recv hK hP (ci := 1) (q0 := 0) rfl rfl) hK rfl hl.1 (Nat.le_of_ble_eq_true rfl) rfl dX1_blame_7 ⟨Nat.le_of_ble_eq_true rfl, Nat.le_of_ble_eq_true rfl⟩ ?_
  refine lv_ifb_ne (tgt := 19) hx hb dX1_blame_10 (by decide) (fun c10 => ?_) (fun c10 => absurd (c10.symm.trans (rg_in ht (by omega))) (by decide))
  refine lv_iload_n hx hb dX1_blame_19 rfl (lv_at hl 2 rfl) ?_
  refine lv_iconst (v := 0) hx hb dX1_blame_20 (by decide) ?_
  refine lv_aload_n hx hb dX1_blame_21 rfl (lv_at hl 0 rfl) ?_
  refine pcV_i (As := []) (rest := [.int 0, .int (nI k)]) ⟨hx, hb, hml, hown, hts⟩ (g_M_all l hP htc hnc hac) (cwV 0 hts gX1_blame_X1_all rfl rfl rfl hdX1_all ⟨Nat.le_of_ble_eq_true rfl, Nat.le_of_ble_eq_true rfl⟩) (va_recv hK hP (ci := 1) (q0 := 0) rfl rfl) hK rfl hl.1 (Nat.le_of_ble_eq_true rfl) rfl dX1_blame_22 ⟨Nat.le_of_ble_eq_true rfl, Nat.le_of_ble_eq_true rfl⟩ ?_
  refine pcS_i (As := [.int (nI k), .int 0, .int (nI (pw tc - 1))]) (rest := []) ⟨hx, hb, hml, hown, hts⟩ (g_M_isIn l (nI k) 0 (nI (pw tc - 1))) (va_cwS 3 hts gX1_blame_X1_isIn rfl rfl rfl hdX1_isIn ⟨Nat.le_of_ble_eq_true rfl, Nat.le_of_ble_eq_true rfl⟩) rfl hl.1 (Nat.le_of_ble_eq_true rfl) rfl dX1_blame_25 ⟨Nat.le_of_ble_eq_true rfl, Nat.le_of_ble_eq_true rfl⟩ ?_
  refine lv_ifb_ne (tgt := 37) hx hb dX1_blame_28 (by decide) (fun c28 => ?_) (fun c28 => absurd (c28.symm.trans (rg_bet (k := k) (a := 0) (n := pw tc - 1) (by omega) (by omega) (by omega))) (by decide))
  refine lv_aload_n hx hb dX1_blame_37 rfl (lv_at hl 0 rfl) ?_
  refine va_get (D := D) (ci := 1) (v := .ref (r 5)) (C := RX1) (T := TX1) (N := 10) hx hb hts hin hown hK hP 0 rfl rfl 8 (by decide) (hts (.fieldLink RX1 23 "SmudgedStarModel" "blames" "[I") (List.mem_of_getElem? (i := 2) rfl)) (fun _ h9 => h9) rfl dX1_blame_38 ?_
  refine lv_iload_n hx hb dX1_blame_41 rfl (lv_at hl 1 rfl) ?_
  refine ia_ld hx hb hK hP 5 0 rfl rfl (j := t) (by omega) (by decide) dX1_blame_42 ?_
  refine lv_istore_n (lv' := [(3, .int (B t)), (0, .ref (r 0)), (1, .int (nI t)), (2, .int (nI k))]) hx hb dX1_blame_43 rfl hl (by decide) rfl (fun ls hl => ?_)
  refine lv_aload_n hx hb dX1_blame_44 rfl (lv_at hl 1 rfl) ?_
  refine lv_iload_n hx hb dX1_blame_45 rfl (lv_at hl 2 rfl) ?_
  refine lv_iload_n hx hb dX1_blame_46 rfl (lv_at hl 3 rfl) ?_
  refine wcV_v (As := [.int (nI t), .int (nI k)]) (rest := []) ⟨hx, hb, hml, hown, hts⟩ (w_M_think l hP htc hnc hac (hD.weaken (fun _ _ _ _ => trivial)) (a := t) (v := nI k) (by omega)) (cwV 2 hts gX1_blame_X1_think rfl rfl rfl hdX1_think ⟨Nat.le_of_ble_eq_true rfl, Nat.le_of_ble_eq_true rfl⟩) (va_recv hK hP (ci := 1) (q0 := 0) rfl rfl) hK hS (va_free_all hD hS hA) rfl hl.1 (Nat.le_of_ble_eq_true rfl) rfl dX1_blame_47 ⟨Nat.le_of_ble_eq_true rfl, Nat.le_of_ble_eq_true rfl⟩ (fun H locs hP hz1 hk1 hS => ?_)
  have hP : va_P D vwCl (wM cI cZ r 0 tc nc ac ch U Z (upd B t (nI k)) (upd L t (F t)) F) H := hP
  have hD : va_D A (wM cI cZ r 0 tc nc ac ch U Z (upd B t (nI k)) (upd L t (F t)) F) := va_D_re hD rfl
  refine lv_iload_n hx hb dX1_blame_50 rfl (lv_at hl 0 rfl) ?_
  have hPe : va_P D vwCl (wM cI cZ r 0 tc nc ac ch U Z (upd B t (nI k)) (upd L t (F t)) F) H := hP
  exact W.iret (v := B t) hx hb hr (fun t9 ht9 hW9 => ⟨⟨B t, (), rfl, rfl, by show va_P D vwCl _ t9.heap; rw [ht9]; exact hPe⟩, hS.F ht9⟩) hS.2.2 dX1_blame_51
set_option maxHeartbeats 4000000 in
set_option maxRecDepth 100000 in
theorem wb_M_blame (l : Launch) {D : va_G} {cI cZ : ClassId} {r : Nat → Nat} {th : Int32} {tc nc ac : Nat} {ch : Int32} {U : Nat → Int32} {Z : Nat → Bool} {B L F : Nat → Int32} {H : Heap} (hP : va_P D vwCl (wM cI cZ r th tc nc ac ch U Z B L F) H) (htc : tc ≤ 8) (hnc : nc ≤ 40) (hac : ac ≤ 8) (hD0 : va_D (fun _ => True) (wM cI cZ r th tc nc ac ch U Z B L F)) {v v2 : Int32} (hv : v < 0 ∨ nI ac ≤ v) : Met l yX1_blame wsX1_blame ({ frames := 2, cells := 0, slots := 0, locals := 43 }) (va_Pc [.ref (r 0), .int v, .int v2] (rd D vwCl (tyA cI cZ) H)) (va_Qi (fun r (_ : Unit) => r = 0) (fun _ t8 => va_P D vwCl (wM cI cZ r 1 tc nc ac ch U Z B L F) t8.heap) (va_A (wM cI cZ r th tc nc ac ch U Z B L F) H.size)) 0 0 (va_A (wM cI cZ r th tc nc ac ch U Z B L F) H.size) := by
  refine Met.ofW (cc := cX1_blame) (maxL := 4) (ret := (some .int)) (by decide) rfl ?_
  intro p e s m args below meth c s₁ B9 hml hv
  obtain ⟨rfl, hH, hK⟩ := hv
  subst hH
  have hx := B9.exec
  have hb := B9.bytes
  have hr := B9.returns
  have hts := atoms_spec (ws := wsX1_blame) B9.pre
  have hown : s.vm.findClass RX1 = some m.cls := findClass_of_methodNamed B9.named
  have hlocks := B9.notSynchronized
  have hin : ∀ w ∈ u_ws RX1 TX1 10, w ∈ wsX1_blame := fun w h => List.mem_cons_of_mem _ (List.mem_append_right _ h)
  have hD0 := hD0.self (sz := s.heap.size)
  generalize hAe : va_A (wM cI cZ r th tc nc ac ch U Z B L F) s.heap.size = A at hD0 ⊢
  have hA : ∀ q : Nat, s.heap.size ≤ q → A q := fun q h => by rw [← hAe]; exact Or.inr h
  have hS : va_S A s.heap s.heap [] := va_S.rf
  have hD := hD0
  have hl := lv_entry ([.ref (r 0), .int v, .int v2]) (n := 4) (Nat.le_of_ble_eq_true rfl)
  rw [lg_entry_eq]
  generalize (lg_sl ([.ref (r 0), .int v, .int v2]) ++ List.replicate (4 - (lg_sl ([.ref (r 0), .int v, .int v2])).length) Slot.unset).toArray = ls at hl ⊢
  have hl : lv_has ls 4 [(0, .ref (r 0)), (1, .int v), (2, .int v2)] := hl
  refine lv_aload_n hx hb dX1_blame_0 rfl (lv_at hl 0 rfl) ?_
  refine lv_iconst (v := 0) hx hb dX1_blame_1 (by decide) ?_
  refine va_put (D := D) (ci := 1) (v := .int 0) (ty := .int) (C := RX1) (T := TX1) (N := 10) hx hb hts hin tyX1 tyX1_ok nmX1 hown hK hP hD hS 0 rfl rfl 0 (by decide) (hts (.fieldLink RX1 26 "SmudgedStarModel" "thrown" "I") (List.mem_of_getElem? (i := 1) rfl)) (fun _ h9 => h9) rfl (by decide +kernel) rfl rfl (Nat.le_of_ble_eq_true rfl) dX1_blame_2 (fun H locs hP hD hS => ?_)
  have hP : va_P D vwCl (wM cI cZ r 0 tc nc ac ch U Z B L F) H := hP
  have hD : va_D A (wM cI cZ r 0 tc nc ac ch U Z B L F) := va_D_re hD rfl
  refine lv_aload_n hx hb dX1_blame_5 rfl (lv_at hl 0 rfl) ?_
  refine lv_iload_n hx hb dX1_blame_6 rfl (lv_at hl 1 rfl) ?_
  refine pcV_i (As := [.int v]) (rest := []) ⟨hx, hb, hml, hown, hts⟩ (g_M_isAstronomer l hP htc hnc hac (v := v)) (cwV 1 hts gX1_blame_X1_isAstronomer rfl rfl rfl hdX1_isAstronomer ⟨Nat.le_of_ble_eq_true rfl, Nat.le_of_ble_eq_true rfl⟩) (va_recv hK hP (ci := 1) (q0 := 0) rfl rfl) hK rfl hl.1 (Nat.le_of_ble_eq_true rfl) rfl dX1_blame_7 ⟨Nat.le_of_ble_eq_true rfl, Nat.le_of_ble_eq_true rfl⟩ ?_
  refine lv_ifb_ne (tgt := 19) hx hb dX1_blame_10 (by decide) (fun c10 => absurd (c10.symm.trans (rg_out (n := ac) (by omega) hv)) (by decide)) (fun c10 => ?_)
  refine lv_aload_n hx hb dX1_blame_13 rfl (lv_at hl 0 rfl) ?_
  refine lv_iconst (v := 1) hx hb dX1_blame_14 (by decide) ?_
  refine wcV_i (As := [.int 1]) (rest := []) ⟨hx, hb, hml, hown, hts⟩ (w_M_no l hP htc hnc hac (hD.weaken (fun _ _ _ _ => trivial)) (v := 1)) (cwV 1 hts gX1_blame_X1_no rfl rfl rfl hdX1_no ⟨Nat.le_of_ble_eq_true rfl, Nat.le_of_ble_eq_true rfl⟩) (va_recv hK hP (ci := 1) (q0 := 0) rfl rfl) hK hS (va_free_all hD hS hA) rfl hl.1 (Nat.le_of_ble_eq_true rfl) rfl dX1_blame_15 ⟨Nat.le_of_ble_eq_true rfl, Nat.le_of_ble_eq_true rfl⟩ (fun H locs hP hz1 hk1 hS => ?_)
  have hP : va_P D vwCl (wM cI cZ r 1 tc nc ac ch U Z B L F) H := hP
  have hD : va_D A (wM cI cZ r 1 tc nc ac ch U Z B L F) := va_D_re hD rfl
  have hPe : va_P D vwCl (wM cI cZ r 1 tc nc ac ch U Z B L F) H := hP
  exact W.iret (v := 0) hx hb hr (fun t9 ht9 hW9 => ⟨⟨0, (), rfl, rfl, by show va_P D vwCl _ t9.heap; rw [ht9]; exact hPe⟩, hS.F ht9⟩) hS.2.2 dX1_blame_18
set_option maxHeartbeats 4000000 in
set_option maxRecDepth 100000 in
theorem wb2_M_blame (l : Launch) {D : va_G} {cI cZ : ClassId} {r : Nat → Nat} {th : Int32} {tc nc ac : Nat} {ch : Int32} {U : Nat → Int32} {Z : Nat → Bool} {B L F : Nat → Int32} {H : Heap} (hP : va_P D vwCl (wM cI cZ r th tc nc ac ch U Z B L F) H) (htc : tc ≤ 8) (hnc : nc ≤ 40) (hac : ac ≤ 8) (hD0 : va_D (fun _ => True) (wM cI cZ r th tc nc ac ch U Z B L F)) {t : Nat} {v : Int32} (ht : t < ac) (hv : v < 0 ∨ nI (pw tc - 1) < v) : Met l yX1_blame wsX1_blame ({ frames := 2, cells := 0, slots := 0, locals := 43 }) (va_Pc [.ref (r 0), .int (nI t), .int v] (rd D vwCl (tyA cI cZ) H)) (va_Qi (fun r (_ : Unit) => r = 0) (fun _ t8 => va_P D vwCl (wM cI cZ r 2 tc nc ac ch U Z B L F) t8.heap) (va_A (wM cI cZ r th tc nc ac ch U Z B L F) H.size)) 0 0 (va_A (wM cI cZ r th tc nc ac ch U Z B L F) H.size) := by
  refine Met.ofW (cc := cX1_blame) (maxL := 4) (ret := (some .int)) (by decide) rfl ?_
  intro p e s m args below meth c s₁ B9 hml hv
  obtain ⟨rfl, hH, hK⟩ := hv
  subst hH
  have hx := B9.exec
  have hb := B9.bytes
  have hr := B9.returns
  have hts := atoms_spec (ws := wsX1_blame) B9.pre
  have hown : s.vm.findClass RX1 = some m.cls := findClass_of_methodNamed B9.named
  have hlocks := B9.notSynchronized
  have hin : ∀ w ∈ u_ws RX1 TX1 10, w ∈ wsX1_blame := fun w h => List.mem_cons_of_mem _ (List.mem_append_right _ h)
  have hD0 := hD0.self (sz := s.heap.size)
  generalize hAe : va_A (wM cI cZ r th tc nc ac ch U Z B L F) s.heap.size = A at hD0 ⊢
  have hA : ∀ q : Nat, s.heap.size ≤ q → A q := fun q h => by rw [← hAe]; exact Or.inr h
  have hS : va_S A s.heap s.heap [] := va_S.rf
  have hD := hD0
  have hl := lv_entry ([.ref (r 0), .int (nI t), .int v]) (n := 4) (Nat.le_of_ble_eq_true rfl)
  rw [lg_entry_eq]
  generalize (lg_sl ([.ref (r 0), .int (nI t), .int v]) ++ List.replicate (4 - (lg_sl ([.ref (r 0), .int (nI t), .int v])).length) Slot.unset).toArray = ls at hl ⊢
  have hl : lv_has ls 4 [(0, .ref (r 0)), (1, .int (nI t)), (2, .int v)] := hl
  refine lv_aload_n hx hb dX1_blame_0 rfl (lv_at hl 0 rfl) ?_
  refine lv_iconst (v := 0) hx hb dX1_blame_1 (by decide) ?_
  refine va_put (D := D) (ci := 1) (v := .int 0) (ty := .int) (C := RX1) (T := TX1) (N := 10) hx hb hts hin tyX1 tyX1_ok nmX1 hown hK hP hD hS 0 rfl rfl 0 (by decide) (hts (.fieldLink RX1 26 "SmudgedStarModel" "thrown" "I") (List.mem_of_getElem? (i := 1) rfl)) (fun _ h9 => h9) rfl (by decide +kernel) rfl rfl (Nat.le_of_ble_eq_true rfl) dX1_blame_2 (fun H locs hP hD hS => ?_)
  have hP : va_P D vwCl (wM cI cZ r 0 tc nc ac ch U Z B L F) H := hP
  have hD : va_D A (wM cI cZ r 0 tc nc ac ch U Z B L F) := va_D_re hD rfl
  refine lv_aload_n hx hb dX1_blame_5 rfl (lv_at hl 0 rfl) ?_
  refine lv_iload_n hx hb dX1_blame_6 rfl (lv_at hl 1 rfl) ?_
  refine pcV_i (As := [.int (nI t)]) (rest := []) ⟨hx, hb, hml, hown, hts⟩ (g_M_isAstronomer l hP htc hnc hac (v := nI t)) (cwV 1 hts gX1_blame_X1_isAstronomer rfl rfl rfl hdX1_isAstronomer ⟨Nat.le_of_ble_eq_true rfl, Nat.le_of_ble_eq_true rfl⟩) (va_recv hK hP (ci := 1) (q0 := 0) rfl rfl) hK rfl hl.1 (Nat.le_of_ble_eq_true rfl) rfl dX1_blame_7 ⟨Nat.le_of_ble_eq_true rfl, Nat.le_of_ble_eq_true rfl⟩ ?_
  refine lv_ifb_ne (tgt := 19) hx hb dX1_blame_10 (by decide) (fun c10 => ?_) (fun c10 => absurd (c10.symm.trans (rg_in ht (by omega))) (by decide))
  refine lv_iload_n hx hb dX1_blame_19 rfl (lv_at hl 2 rfl) ?_
  refine lv_iconst (v := 0) hx hb dX1_blame_20 (by decide) ?_
  refine lv_aload_n hx hb dX1_blame_21 rfl (lv_at hl 0 rfl) ?_
  refine pcV_i (As := []) (rest := [.int 0, .int v]) ⟨hx, hb, hml, hown, hts⟩ (g_M_all l hP htc hnc hac) (cwV 0 hts gX1_blame_X1_all rfl rfl rfl hdX1_all ⟨Nat.le_of_ble_eq_true rfl, Nat.le_of_ble_eq_true rfl⟩) (va_recv hK hP (ci := 1) (q0 := 0) rfl rfl) hK rfl hl.1 (Nat.le_of_ble_eq_true rfl) rfl dX1_blame_22 ⟨Nat.le_of_ble_eq_true rfl, Nat.le_of_ble_eq_true rfl⟩ ?_
  refine pcS_i (As := [.int v, .int 0, .int (nI (pw tc - 1))]) (rest := []) ⟨hx, hb, hml, hown, hts⟩ (g_M_isIn l v 0 (nI (pw tc - 1))) (va_cwS 3 hts gX1_blame_X1_isIn rfl rfl rfl hdX1_isIn ⟨Nat.le_of_ble_eq_true rfl, Nat.le_of_ble_eq_true rfl⟩) rfl hl.1 (Nat.le_of_ble_eq_true rfl) rfl dX1_blame_25 ⟨Nat.le_of_ble_eq_true rfl, Nat.le_of_ble_eq_true rfl⟩ ?_
  refine lv_ifb_ne (tgt := 37) hx hb dX1_blame_28 (by decide) (fun c28 => absurd (c28.symm.trans (rg_off hv)) (by decide)) (fun c28 => ?_)
  refine lv_aload_n hx hb dX1_blame_31 rfl (lv_at hl 0 rfl) ?_
  refine lv_iconst (v := 2) hx hb dX1_blame_32 (by decide) ?_
  refine wcV_i (As := [.int 2]) (rest := []) ⟨hx, hb, hml, hown, hts⟩ (w_M_no l hP htc hnc hac (hD.weaken (fun _ _ _ _ => trivial)) (v := 2)) (cwV 1 hts gX1_blame_X1_no rfl rfl rfl hdX1_no ⟨Nat.le_of_ble_eq_true rfl, Nat.le_of_ble_eq_true rfl⟩) (va_recv hK hP (ci := 1) (q0 := 0) rfl rfl) hK hS (va_free_all hD hS hA) rfl hl.1 (Nat.le_of_ble_eq_true rfl) rfl dX1_blame_33 ⟨Nat.le_of_ble_eq_true rfl, Nat.le_of_ble_eq_true rfl⟩ (fun H locs hP hz1 hk1 hS => ?_)
  have hP : va_P D vwCl (wM cI cZ r 2 tc nc ac ch U Z B L F) H := hP
  have hD : va_D A (wM cI cZ r 2 tc nc ac ch U Z B L F) := va_D_re hD rfl
  have hPe : va_P D vwCl (wM cI cZ r 2 tc nc ac ch U Z B L F) H := hP
  exact W.iret (v := 0) hx hb hr (fun t9 ht9 hW9 => ⟨⟨0, (), rfl, rfl, by show va_P D vwCl _ t9.heap; rw [ht9]; exact hPe⟩, hS.F ht9⟩) hS.2.2 dX1_blame_36
set_option maxHeartbeats 4000000 in
set_option maxRecDepth 100000 in
theorem w_M_writeDown (l : Launch) {D : va_G} {cI cZ : ClassId} {r : Nat → Nat} {th : Int32} {tc nc ac : Nat} {ch : Int32} {U : Nat → Int32} {Z : Nat → Bool} {B L F : Nat → Int32} {H : Heap} (hP : va_P D vwCl (wM cI cZ r th tc nc ac ch U Z B L F) H) (htc : tc ≤ 8) (hnc : nc ≤ 40) (hac : ac ≤ 8) (hD0 : va_D (fun _ => True) (wM cI cZ r th tc nc ac ch U Z B L F)) {k : Nat} {z : Bool} (hk0 : 1 ≤ k) (hk : k < pw tc) (h40 : nc < 40) : Met l yX1_writeDown wsX1_writeDown ({ frames := 3, cells := 0, slots := 0, locals := 67 }) (va_Pc [.ref (r 0), .int (nI k), .int (bI z)] (rd D vwCl (tyA cI cZ) H)) (va_Qi (fun r (_ : Unit) => r = nI (ct (sC B L (nI k) z (smm (fun j => zz (upd U nc (nI k)) (updB Z nc z) (nc + 1) j) (pw tc))) ac)) (fun _ t8 => va_P D vwCl (wM cI cZ r 0 tc (nc + 1) ac (ch + nI (ct (sC B L (nI k) z (smm (fun j => zz (upd U nc (nI k)) (updB Z nc z) (nc + 1) j) (pw tc))) ac)) (upd U nc (nI k)) (updB Z nc z) (mrg (sB B L (nI k) z (smm (fun j => zz (upd U nc (nI k)) (updB Z nc z) (nc + 1) j) (pw tc))) B ac) (mrg (sL B L F (nI k) z (smm (fun j => zz (upd U nc (nI k)) (updB Z nc z) (nc + 1) j) (pw tc))) L ac) F) t8.heap) (va_A (wM cI cZ r th tc nc ac ch U Z B L F) H.size)) 0 0 (va_A (wM cI cZ r th tc nc ac ch U Z B L F) H.size) := by
  refine Met.ofW (cc := cX1_writeDown) (maxL := 6) (ret := (some .int)) (by decide) rfl ?_
  intro p e s m args below meth c s₁ B9 hml hv
  obtain ⟨rfl, hH, hK⟩ := hv
  subst hH
  have hx := B9.exec
  have hb := B9.bytes
  have hr := B9.returns
  have hts := atoms_spec (ws := wsX1_writeDown) B9.pre
  have hown : s.vm.findClass RX1 = some m.cls := findClass_of_methodNamed B9.named
  have hlocks := B9.notSynchronized
  have hin : ∀ w ∈ u_ws RX1 TX1 10, w ∈ wsX1_writeDown := fun w h => List.mem_cons_of_mem _ (List.mem_append_right _ h)
  have hD0 := hD0.self (sz := s.heap.size)
  generalize hAe : va_A (wM cI cZ r th tc nc ac ch U Z B L F) s.heap.size = A at hD0 ⊢
  have hA : ∀ q : Nat, s.heap.size ≤ q → A q := fun q h => by rw [← hAe]; exact Or.inr h
  have hS : va_S A s.heap s.heap [] := va_S.rf
  have hD := hD0
  have hl := lv_entry ([.ref (r 0), .int (nI k), .int (bI z)]) (n := 6) (Nat.le_of_ble_eq_true rfl)
  rw [lg_entry_eq]
  generalize (lg_sl ([.ref (r 0), .int (nI k), .int (bI z)]) ++ List.replicate (6 - (lg_sl ([.ref (r 0), .int (nI k), .int (bI z)])).length) Slot.unset).toArray = ls at hl ⊢
  have hl : lv_has ls 6 [(0, .ref (r 0)), (1, .int (nI k)), (2, .int (bI z))] := hl
  have hpw := pw_in htc
  refine lv_aload_n hx hb dX1_writeDown_0 rfl (lv_at hl 0 rfl) ?_
  refine lv_iconst (v := 0) hx hb dX1_writeDown_1 (by decide) ?_
  refine va_put (D := D) (ci := 1) (v := .int 0) (ty := .int) (C := RX1) (T := TX1) (N := 10) hx hb hts hin tyX1 tyX1_ok nmX1 hown hK hP hD hS 0 rfl rfl 0 (by decide) (hts (.fieldLink RX1 26 "SmudgedStarModel" "thrown" "I") (List.mem_of_getElem? (i := 1) rfl)) (fun _ h9 => h9) rfl (by decide +kernel) rfl rfl (Nat.le_of_ble_eq_true rfl) dX1_writeDown_2 (fun H locs hP hD hS => ?_)
  have hP : va_P D vwCl (wM cI cZ r 0 tc nc ac ch U Z B L F) H := hP
  have hD : va_D A (wM cI cZ r 0 tc nc ac ch U Z B L F) := va_D_re hD rfl
  refine lv_iload_n hx hb dX1_writeDown_5 rfl (lv_at hl 1 rfl) ?_
  refine lv_iconst (v := 1) hx hb dX1_writeDown_6 (by decide) ?_
  refine lv_aload_n hx hb dX1_writeDown_7 rfl (lv_at hl 0 rfl) ?_
  refine pcV_i (As := []) (rest := [.int 1, .int (nI k)]) ⟨hx, hb, hml, hown, hts⟩ (g_M_all l hP htc hnc hac) (cwV 0 hts gX1_writeDown_X1_all rfl rfl rfl hdX1_all ⟨Nat.le_of_ble_eq_true rfl, Nat.le_of_ble_eq_true rfl⟩) (va_recv hK hP (ci := 1) (q0 := 0) rfl rfl) hK rfl hl.1 (Nat.le_of_ble_eq_true rfl) rfl dX1_writeDown_8 ⟨Nat.le_of_ble_eq_true rfl, Nat.le_of_ble_eq_true rfl⟩ ?_
  refine pcS_i (As := [.int (nI k), .int 1, .int (nI (pw tc - 1))]) (rest := []) ⟨hx, hb, hml, hown, hts⟩ (g_M_isIn l (nI k) 1 (nI (pw tc - 1))) (va_cwS 3 hts gX1_writeDown_X1_isIn rfl rfl rfl hdX1_isIn ⟨Nat.le_of_ble_eq_true rfl, Nat.le_of_ble_eq_true rfl⟩) rfl hl.1 (Nat.le_of_ble_eq_true rfl) rfl dX1_writeDown_11 ⟨Nat.le_of_ble_eq_true rfl, Nat.le_of_ble_eq_true rfl⟩ ?_
  refine lv_ifb_ne (tgt := 23) hx hb dX1_writeDown_14 (by decide) (fun c14 => ?_) (fun c14 => absurd (c14.symm.trans (rg_bet (k := k) (a := 1) (n := pw tc - 1) (by omega) (by omega) (by omega))) (by decide))
  refine lv_aload_n hx hb dX1_writeDown_23 rfl (lv_at hl 0 rfl) ?_
  refine va_get (D := D) (ci := 1) (v := .int (nI nc)) (C := RX1) (T := TX1) (N := 10) hx hb hts hin hown hK hP 0 rfl rfl 2 (by decide) (hts (.fieldLink RX1 37 "SmudgedStarModel" "nights" "I") (List.mem_of_getElem? (i := 2) rfl)) (fun _ h9 => h9) rfl dX1_writeDown_24 ?_
  refine lv_bipush (v := 40) hx hb dX1_writeDown_27 (by decide) ?_
  refine lv_icmp_ne (tgt := 38) hx hb dX1_writeDown_29 (by decide) (fun c29 => ?_) (fun c29 => absurd ((nI_eq (b := 40) (by omega) (by decide)).mp c29) (by omega))
  refine lv_aload_n hx hb dX1_writeDown_38 rfl (lv_at hl 0 rfl) ?_
  refine lv_iload_n hx hb dX1_writeDown_39 rfl (lv_at hl 1 rfl) ?_
  refine lv_iload_n hx hb dX1_writeDown_40 rfl (lv_at hl 2 rfl) ?_
  refine wcV_v (As := [.int (nI k), .int (bI z)]) (rest := []) ⟨hx, hb, hml, hown, hts⟩ (w_M_put l hP htc hnc hac (hD.weaken (fun _ _ _ _ => trivial)) (u := nI k) (z := z) h40) (cwV 2 hts gX1_writeDown_X1_put rfl rfl rfl hdX1_put ⟨Nat.le_of_ble_eq_true rfl, Nat.le_of_ble_eq_true rfl⟩) (va_recv hK hP (ci := 1) (q0 := 0) rfl rfl) hK hS (va_free_all hD hS hA) rfl hl.1 (Nat.le_of_ble_eq_true rfl) rfl dX1_writeDown_41 ⟨Nat.le_of_ble_eq_true rfl, Nat.le_of_ble_eq_true rfl⟩ (fun H locs hP hz1 hk1 hS => ?_)
  have hP : va_P D vwCl (wM cI cZ r 0 tc (nc + 1) ac ch (upd U nc (nI k)) (updB Z nc z) B L F) H := hP
  have hD : va_D A (wM cI cZ r 0 tc (nc + 1) ac ch (upd U nc (nI k)) (updB Z nc z) B L F) := va_D_re hD rfl
  refine lv_aload_n hx hb dX1_writeDown_44 rfl (lv_at hl 0 rfl) ?_
  refine pcV_i (As := []) (rest := []) ⟨hx, hb, hml, hown, hts⟩ (g_M_fewest l hP htc (by omega) hac) (cwV 0 hts gX1_writeDown_X1_fewest rfl rfl rfl hdX1_fewest ⟨Nat.le_of_ble_eq_true rfl, Nat.le_of_ble_eq_true rfl⟩) (va_recv hK hP (ci := 1) (q0 := 0) rfl rfl) hK rfl hl.1 (Nat.le_of_ble_eq_true rfl) rfl dX1_writeDown_45 ⟨Nat.le_of_ble_eq_true rfl, Nat.le_of_ble_eq_true rfl⟩ ?_
  refine lv_istore_n (lv' := [(3, .int (smm (fun j => zz (upd U nc (nI k)) (updB Z nc z) (nc + 1) j) (pw tc))), (0, .ref (r 0)), (1, .int (nI k)), (2, .int (bI z))]) hx hb dX1_writeDown_48 rfl hl (by decide) rfl (fun ls hl => ?_)
  refine lv_iconst (v := 0) hx hb dX1_writeDown_49 (by decide) ?_
  refine lv_istore (lv' := [(4, .int 0), (3, .int (smm (fun j => zz (upd U nc (nI k)) (updB Z nc z) (nc + 1) j) (pw tc))), (0, .ref (r 0)), (1, .int (nI k)), (2, .int (bI z))]) hx hb dX1_writeDown_50 hl (by decide) rfl (fun ls hl => ?_)
  refine lv_iconst (v := 0) hx hb dX1_writeDown_52 (by decide) ?_
  refine lv_istore (lv' := [(5, .int 0), (4, .int 0), (3, .int (smm (fun j => zz (upd U nc (nI k)) (updB Z nc z) (nc + 1) j) (pw tc))), (0, .ref (r 0)), (1, .int (nI k)), (2, .int (bI z))]) hx hb dX1_writeDown_53 hl (by decide) rfl (fun ls hl => ?_)
  refine w_loopH (N := ac) (T := fun i => [(5, .int (nI i)), (4, .int (nI (ct (sC B L (nI k) z (smm (fun j => zz (upd U nc (nI k)) (updB Z nc z) (nc + 1) j) (pw tc))) i))), (3, .int (smm (fun j => zz (upd U nc (nI k)) (updB Z nc z) (nc + 1) j) (pw tc))), (0, .ref (r 0)), (1, .int (nI k)), (2, .int (bI z))]) (w := fun i => wM cI cZ r 0 tc (nc + 1) ac ch (upd U nc (nI k)) (updB Z nc z) (mrg (sB B L (nI k) z (smm (fun j => zz (upd U nc (nI k)) (updB Z nc z) (nc + 1) j) (pw tc))) B i) (mrg (sL B L F (nI k) z (smm (fun j => zz (upd U nc (nI k)) (updB Z nc z) (nc + 1) j) (pw tc))) L i) F) 0 (Nat.zero_le _) (lv_sub hl [0, 1, 2, 3, 4, 5] rfl) (D := D) (cl := vwCl) hP hS (fun i ls H locs hi hi0 hl hP hS ih => ?_)
  have hP : va_P D vwCl (wM cI cZ r 0 tc (nc + 1) ac ch (upd U nc (nI k)) (updB Z nc z) (mrg (sB B L (nI k) z (smm (fun j => zz (upd U nc (nI k)) (updB Z nc z) (nc + 1) j) (pw tc))) B i) (mrg (sL B L F (nI k) z (smm (fun j => zz (upd U nc (nI k)) (updB Z nc z) (nc + 1) j) (pw tc))) L i) F) H := hP
  have hD : va_D A (wM cI cZ r 0 tc (nc + 1) ac ch (upd U nc (nI k)) (updB Z nc z) (mrg (sB B L (nI k) z (smm (fun j => zz (upd U nc (nI k)) (updB Z nc z) (nc + 1) j) (pw tc))) B i) (mrg (sL B L F (nI k) z (smm (fun j => zz (upd U nc (nI k)) (updB Z nc z) (nc + 1) j) (pw tc))) L i) F) := va_D_re hD0 rfl
  have hl : lv_has ls 6 [(5, .int (nI i)), (4, .int (nI (ct (sC B L (nI k) z (smm (fun j => zz (upd U nc (nI k)) (updB Z nc z) (nc + 1) j) (pw tc))) i))), (3, .int (smm (fun j => zz (upd U nc (nI k)) (updB Z nc z) (nc + 1) j) (pw tc))), (0, .ref (r 0)), (1, .int (nI k)), (2, .int (bI z))] := hl
  refine lv_iload hx hb dX1_writeDown_55 (lv_at hl 0 rfl) ?_
  refine lv_aload_n hx hb dX1_writeDown_57 rfl (lv_at hl 3 rfl) ?_
  refine va_get (D := D) (ci := 1) (v := .int (nI ac)) (C := RX1) (T := TX1) (N := 10) hx hb hts hin hown hK hP 0 rfl rfl 5 (by decide) (hts (.fieldLink RX1 40 "SmudgedStarModel" "astronomers" "I") (List.mem_of_getElem? (i := 3) rfl)) (fun _ h9 => h9) rfl dX1_writeDown_58 ?_
  refine lv_icmp_ge (tgt := 127) hx hb dX1_writeDown_61 (by decide) (fun c61 => ?_) (fun c61 => ?_)
  · skip
    have hie : i = ac := gd_ge_t (by omega) hi c61
    rw [hie] at hl
    rw [hie] at hP hD
    refine lv_aload_n hx hb dX1_writeDown_127 rfl (lv_at hl 3 rfl) ?_
    refine lv_dup hx hb dX1_writeDown_128 rfl ?_
    refine va_get (D := D) (ci := 1) (v := .int ch) (C := RX1) (T := TX1) (N := 10) hx hb hts hin hown hK hP 0 rfl rfl 9 (by decide) (hts (.fieldLink RX1 82 "SmudgedStarModel" "changes" "I") (List.mem_of_getElem? (i := 6) rfl)) (fun _ h9 => h9) rfl dX1_writeDown_129 ?_
    refine lv_iload hx hb dX1_writeDown_132 (lv_at hl 1 rfl) ?_
    refine lv_iadd hx hb dX1_writeDown_134 ?_
    refine va_put (D := D) (ci := 1) (v := .int (ch + (nI (ct (sC B L (nI k) z (smm (fun j => zz (upd U nc (nI k)) (updB Z nc z) (nc + 1) j) (pw tc))) ac)))) (ty := .int) (C := RX1) (T := TX1) (N := 10) hx hb hts hin tyX1 tyX1_ok nmX1 hown hK hP hD hS 0 rfl rfl 9 (by decide) (hts (.fieldLink RX1 82 "SmudgedStarModel" "changes" "I") (List.mem_of_getElem? (i := 6) rfl)) (fun _ h9 => h9) rfl (by decide +kernel) rfl rfl (Nat.le_of_ble_eq_true rfl) dX1_writeDown_135 (fun H locs hP hD hS => ?_)
    have hP : va_P D vwCl (wM cI cZ r 0 tc (nc + 1) ac (ch + (nI (ct (sC B L (nI k) z (smm (fun j => zz (upd U nc (nI k)) (updB Z nc z) (nc + 1) j) (pw tc))) ac))) (upd U nc (nI k)) (updB Z nc z) (mrg (sB B L (nI k) z (smm (fun j => zz (upd U nc (nI k)) (updB Z nc z) (nc + 1) j) (pw tc))) B ac) (mrg (sL B L F (nI k) z (smm (fun j => zz (upd U nc (nI k)) (updB Z nc z) (nc + 1) j) (pw tc))) L ac) F) H := hP
    have hD : va_D A (wM cI cZ r 0 tc (nc + 1) ac (ch + (nI (ct (sC B L (nI k) z (smm (fun j => zz (upd U nc (nI k)) (updB Z nc z) (nc + 1) j) (pw tc))) ac))) (upd U nc (nI k)) (updB Z nc z) (mrg (sB B L (nI k) z (smm (fun j => zz (upd U nc (nI k)) (updB Z nc z) (nc + 1) j) (pw tc))) B ac) (mrg (sL B L F (nI k) z (smm (fun j => zz (upd U nc (nI k)) (updB Z nc z) (nc + 1) j) (pw tc))) L ac) F) := va_D_re hD rfl
    refine lv_iload hx hb dX1_writeDown_138 (lv_at hl 1 rfl) ?_
    have hPe : va_P D vwCl (wM cI cZ r 0 tc (nc + 1) ac (ch + nI (ct (sC B L (nI k) z (smm (fun j => zz (upd U nc (nI k)) (updB Z nc z) (nc + 1) j) (pw tc))) ac)) (upd U nc (nI k)) (updB Z nc z) (mrg (sB B L (nI k) z (smm (fun j => zz (upd U nc (nI k)) (updB Z nc z) (nc + 1) j) (pw tc))) B ac) (mrg (sL B L F (nI k) z (smm (fun j => zz (upd U nc (nI k)) (updB Z nc z) (nc + 1) j) (pw tc))) L ac) F) H := hP
    exact W.iret (v := nI (ct (sC B L (nI k) z (smm (fun j => zz (upd U nc (nI k)) (updB Z nc z) (nc + 1) j) (pw tc))) ac)) hx hb hr (fun t9 ht9 hW9 => ⟨⟨nI (ct (sC B L (nI k) z (smm (fun j => zz (upd U nc (nI k)) (updB Z nc z) (nc + 1) j) (pw tc))) ac), (), rfl, rfl, by show va_P D vwCl _ t9.heap; rw [ht9]; exact hPe⟩, hS.F ht9⟩) hS.2.2 dX1_writeDown_140
  · skip
    have hlt : i < ac := gd_ge_f hi c61
    refine lv_aload_n hx hb dX1_writeDown_64 rfl (lv_at hl 3 rfl) ?_
    refine va_get (D := D) (ci := 1) (v := .ref (r 5)) (C := RX1) (T := TX1) (N := 10) hx hb hts hin hown hK hP 0 rfl rfl 8 (by decide) (hts (.fieldLink RX1 23 "SmudgedStarModel" "blames" "[I") (List.mem_of_getElem? (i := 4) rfl)) (fun _ h9 => h9) rfl dX1_writeDown_65 ?_
    refine lv_iload hx hb dX1_writeDown_68 (lv_at hl 0 rfl) ?_
    refine ia_ld hx hb hK hP 5 0 rfl rfl (j := i) (by omega) (by decide) dX1_writeDown_70 ?_
    refine lv_cst (y := B i) (mrg_at _ _ _) ?_
    refine lv_iload_n hx hb dX1_writeDown_71 rfl (lv_at hl 4 rfl) ?_
    refine lv_iload_n hx hb dX1_writeDown_72 rfl (lv_at hl 5 rfl) ?_
    refine pcS_i (As := [.int (B i), .int (nI k), .int (bI z)]) (rest := []) ⟨hx, hb, hml, hown, hts⟩ (g_M_explains l (B i) (nI k) z) (va_cwS 3 hts gX1_writeDown_X1_explains rfl rfl rfl hdX1_explains ⟨Nat.le_of_ble_eq_true rfl, Nat.le_of_ble_eq_true rfl⟩) rfl hl.1 (Nat.le_of_ble_eq_true rfl) rfl dX1_writeDown_73 ⟨Nat.le_of_ble_eq_true rfl, Nat.le_of_ble_eq_true rfl⟩ ?_
    refine lv_ifb_eq (tgt := 82) hx hb dX1_writeDown_76 (by decide) (fun c76 => ?_) (fun c76 => ?_)
    · skip
      refine lv_aload_n hx hb dX1_writeDown_82 rfl (lv_at hl 3 rfl) ?_
      refine va_get (D := D) (ci := 1) (v := .ref (r 4)) (C := RX1) (T := TX1) (N := 10) hx hb hts hin hown hK hP 0 rfl rfl 7 (by decide) (hts (.fieldLink RX1 20 "SmudgedStarModel" "left" "[I") (List.mem_of_getElem? (i := 5) rfl)) (fun _ h9 => h9) rfl dX1_writeDown_83 ?_
      refine lv_iload hx hb dX1_writeDown_86 (lv_at hl 0 rfl) ?_
      refine ia_ld hx hb hK hP 4 0 rfl rfl (j := i) (by omega) (by decide) dX1_writeDown_88 ?_
      refine lv_cst (y := L i) (mrg_at _ _ _) ?_
      refine lv_if_le (tgt := 106) hx hb dX1_writeDown_89 (by decide) (fun c89 => ?_) (fun c89 => ?_)
      · skip
        refine lv_iload_n hx hb dX1_writeDown_106 rfl (lv_at hl 2 rfl) ?_
        refine lv_iconst (v := (-1)) hx hb dX1_writeDown_107 (by decide) ?_
        refine lv_icmp_eq (tgt := 121) hx hb dX1_writeDown_108 (by decide) (fun c108 => ?_) (fun c108 => ?_)
        · skip
          refine lv_iinc (v := nI (i + 1)) (lv' := [(5, .int (nI (i + 1))), (4, .int (nI (ct (sC B L (nI k) z (smm (fun j => zz (upd U nc (nI k)) (updB Z nc z) (nc + 1) j) (pw tc))) i))), (3, .int (smm (fun j => zz (upd U nc (nI k)) (updB Z nc z) (nc + 1) j) (pw tc))), (0, .ref (r 0)), (1, .int (nI k)), (2, .int (bI z))]) hx hb dX1_writeDown_121 hl (k := 0) rfl (nI_1 _) (by decide) rfl (fun ls hl => ?_)
          refine lv_goto (tgt := 55) hx hb dX1_writeDown_124 (by decide) ?_
          have e4 : (nI (ct (sC B L (nI k) z (smm (fun j => zz (upd U nc (nI k)) (updB Z nc z) (nc + 1) j) (pw tc))) i)) = nI (ct (sC B L (nI k) z (smm (fun j => zz (upd U nc (nI k)) (updB Z nc z) (nc + 1) j) (pw tc))) (i + 1)) := by first | exact ct_t1 (sC_d c76 c89 c108) | exact ct_f (sC_a c76) | exact ct_f (sC_b c76 c89) | exact ct_f (sC_c c108)
          have hl := lv_sub (l' := [(5, .int (nI (i + 1))), (4, .int (nI (ct (sC B L (nI k) z (smm (fun j => zz (upd U nc (nI k)) (updB Z nc z) (nc + 1) j) (pw tc))) i))), (3, .int (smm (fun j => zz (upd U nc (nI k)) (updB Z nc z) (nc + 1) j) (pw tc))), (0, .ref (r 0)), (1, .int (nI k)), (2, .int (bI z))]) hl [0, 1, 2, 3, 4, 5] rfl
          rw [e4] at hl
          rw [mrg_k (sB B L (nI k) z (smm (fun j => zz (upd U nc (nI k)) (updB Z nc z) (nc + 1) j) (pw tc))) B i (((if_neg (by rw [c76]; decide)).trans ((if_neg (fun w9 => w9 c89)).trans (if_pos c108))).symm)] at hP
          rw [mrg_k (sL B L F (nI k) z (smm (fun j => zz (upd U nc (nI k)) (updB Z nc z) (nc + 1) j) (pw tc))) L i (((if_neg (by rw [c76]; decide)).trans ((if_neg (fun w9 => w9 c89)).trans (if_pos c108))).symm)] at hP
          exact ih ls H locs hlt hl hP hS
        · skip
          refine lv_aload_n hx hb dX1_writeDown_111 rfl (lv_at hl 3 rfl) ?_
          refine lv_iload hx hb dX1_writeDown_112 (lv_at hl 0 rfl) ?_
          refine lv_iload_n hx hb dX1_writeDown_114 rfl (lv_at hl 2 rfl) ?_
          refine wcV_v (As := [.int (nI i), .int (smm (fun j => zz (upd U nc (nI k)) (updB Z nc z) (nc + 1) j) (pw tc))]) (rest := []) ⟨hx, hb, hml, hown, hts⟩ (w_M_think l hP htc (by omega) hac (hD.weaken (fun _ _ _ _ => trivial)) (a := i) (v := smm (fun j => zz (upd U nc (nI k)) (updB Z nc z) (nc + 1) j) (pw tc)) (by omega)) (cwV 2 hts gX1_writeDown_X1_think rfl rfl rfl hdX1_think ⟨Nat.le_of_ble_eq_true rfl, Nat.le_of_ble_eq_true rfl⟩) (va_recv hK hP (ci := 1) (q0 := 0) rfl rfl) hK hS (va_free_all hD hS hA) rfl hl.1 (Nat.le_of_ble_eq_true rfl) rfl dX1_writeDown_115 ⟨Nat.le_of_ble_eq_true rfl, Nat.le_of_ble_eq_true rfl⟩ (fun H locs hP hz1 hk1 hS => ?_)
          have hP : va_P D vwCl (wM cI cZ r 0 tc (nc + 1) ac ch (upd U nc (nI k)) (updB Z nc z) (upd (mrg (sB B L (nI k) z (smm (fun j => zz (upd U nc (nI k)) (updB Z nc z) (nc + 1) j) (pw tc))) B i) i (smm (fun j => zz (upd U nc (nI k)) (updB Z nc z) (nc + 1) j) (pw tc))) (upd (mrg (sL B L F (nI k) z (smm (fun j => zz (upd U nc (nI k)) (updB Z nc z) (nc + 1) j) (pw tc))) L i) i (F i)) F) H := hP
          have hD : va_D A (wM cI cZ r 0 tc (nc + 1) ac ch (upd U nc (nI k)) (updB Z nc z) (upd (mrg (sB B L (nI k) z (smm (fun j => zz (upd U nc (nI k)) (updB Z nc z) (nc + 1) j) (pw tc))) B i) i (smm (fun j => zz (upd U nc (nI k)) (updB Z nc z) (nc + 1) j) (pw tc))) (upd (mrg (sL B L F (nI k) z (smm (fun j => zz (upd U nc (nI k)) (updB Z nc z) (nc + 1) j) (pw tc))) L i) i (F i)) F) := va_D_re hD rfl
          refine lv_iinc (v := nI ((ct (sC B L (nI k) z (smm (fun j => zz (upd U nc (nI k)) (updB Z nc z) (nc + 1) j) (pw tc))) i) + 1)) (lv' := [(4, .int (nI ((ct (sC B L (nI k) z (smm (fun j => zz (upd U nc (nI k)) (updB Z nc z) (nc + 1) j) (pw tc))) i) + 1))), (5, .int (nI i)), (3, .int (smm (fun j => zz (upd U nc (nI k)) (updB Z nc z) (nc + 1) j) (pw tc))), (0, .ref (r 0)), (1, .int (nI k)), (2, .int (bI z))]) hx hb dX1_writeDown_118 hl (k := 1) rfl (nI_1 _) (by decide) rfl (fun ls hl => ?_)
          refine lv_iinc (v := nI (i + 1)) (lv' := [(5, .int (nI (i + 1))), (4, .int (nI ((ct (sC B L (nI k) z (smm (fun j => zz (upd U nc (nI k)) (updB Z nc z) (nc + 1) j) (pw tc))) i) + 1))), (3, .int (smm (fun j => zz (upd U nc (nI k)) (updB Z nc z) (nc + 1) j) (pw tc))), (0, .ref (r 0)), (1, .int (nI k)), (2, .int (bI z))]) hx hb dX1_writeDown_121 hl (k := 1) rfl (nI_1 _) (by decide) rfl (fun ls hl => ?_)
          refine lv_goto (tgt := 55) hx hb dX1_writeDown_124 (by decide) ?_
          have e4 : (nI ((ct (sC B L (nI k) z (smm (fun j => zz (upd U nc (nI k)) (updB Z nc z) (nc + 1) j) (pw tc))) i) + 1)) = nI (ct (sC B L (nI k) z (smm (fun j => zz (upd U nc (nI k)) (updB Z nc z) (nc + 1) j) (pw tc))) (i + 1)) := by first | exact ct_t1 (sC_d c76 c89 c108) | exact ct_f (sC_a c76) | exact ct_f (sC_b c76 c89) | exact ct_f (sC_c c108)
          have hl := lv_sub (l' := [(5, .int (nI (i + 1))), (4, .int (nI ((ct (sC B L (nI k) z (smm (fun j => zz (upd U nc (nI k)) (updB Z nc z) (nc + 1) j) (pw tc))) i) + 1))), (3, .int (smm (fun j => zz (upd U nc (nI k)) (updB Z nc z) (nc + 1) j) (pw tc))), (0, .ref (r 0)), (1, .int (nI k)), (2, .int (bI z))]) hl [0, 1, 2, 3, 4, 5] rfl
          rw [e4] at hl
          rw [mrg_s (sB B L (nI k) z (smm (fun j => zz (upd U nc (nI k)) (updB Z nc z) (nc + 1) j) (pw tc))) B i (x := smm (fun j => zz (upd U nc (nI k)) (updB Z nc z) (nc + 1) j) (pw tc)) (((if_neg (by rw [c76]; decide)).trans ((if_neg (fun w9 => w9 c89)).trans (if_neg c108))).symm)] at hP
          rw [mrg_s (sL B L F (nI k) z (smm (fun j => zz (upd U nc (nI k)) (updB Z nc z) (nc + 1) j) (pw tc))) L i (x := F i) (((if_neg (by rw [c76]; decide)).trans ((if_neg (fun w9 => w9 c89)).trans (if_neg c108))).symm)] at hP
          exact ih ls H locs hlt hl hP hS
      · skip
        refine lv_aload_n hx hb dX1_writeDown_92 rfl (lv_at hl 3 rfl) ?_
        refine va_get (D := D) (ci := 1) (v := .ref (r 4)) (C := RX1) (T := TX1) (N := 10) hx hb hts hin hown hK hP 0 rfl rfl 7 (by decide) (hts (.fieldLink RX1 20 "SmudgedStarModel" "left" "[I") (List.mem_of_getElem? (i := 5) rfl)) (fun _ h9 => h9) rfl dX1_writeDown_93 ?_
        refine lv_iload hx hb dX1_writeDown_96 (lv_at hl 0 rfl) ?_
        refine lv_dup2_11 hx hb dX1_writeDown_98 rfl rfl ?_
        refine ia_ld hx hb hK hP 4 0 rfl rfl (j := i) (by omega) (by decide) dX1_writeDown_99 ?_
        refine lv_cst (y := L i) (mrg_at _ _ _) ?_
        refine lv_iconst (v := 1) hx hb dX1_writeDown_100 (by decide) ?_
        refine lv_isub hx hb dX1_writeDown_101 ?_
        refine ia_st hx hb hK hP hD hS 4 0 rfl rfl (j := i) (by omega) (by decide) dX1_writeDown_102 (fun H locs hP hS => ?_)
        have hP : va_P D vwCl (wM cI cZ r 0 tc (nc + 1) ac ch (upd U nc (nI k)) (updB Z nc z) (mrg (sB B L (nI k) z (smm (fun j => zz (upd U nc (nI k)) (updB Z nc z) (nc + 1) j) (pw tc))) B i) (upd (mrg (sL B L F (nI k) z (smm (fun j => zz (upd U nc (nI k)) (updB Z nc z) (nc + 1) j) (pw tc))) L i) i ((L i) - 1)) F) H := hP
        have hD : va_D A (wM cI cZ r 0 tc (nc + 1) ac ch (upd U nc (nI k)) (updB Z nc z) (mrg (sB B L (nI k) z (smm (fun j => zz (upd U nc (nI k)) (updB Z nc z) (nc + 1) j) (pw tc))) B i) (upd (mrg (sL B L F (nI k) z (smm (fun j => zz (upd U nc (nI k)) (updB Z nc z) (nc + 1) j) (pw tc))) L i) i ((L i) - 1)) F) := va_D_re hD rfl
        refine lv_goto (tgt := 121) hx hb dX1_writeDown_103 (by decide) ?_
        refine lv_iinc (v := nI (i + 1)) (lv' := [(5, .int (nI (i + 1))), (4, .int (nI (ct (sC B L (nI k) z (smm (fun j => zz (upd U nc (nI k)) (updB Z nc z) (nc + 1) j) (pw tc))) i))), (3, .int (smm (fun j => zz (upd U nc (nI k)) (updB Z nc z) (nc + 1) j) (pw tc))), (0, .ref (r 0)), (1, .int (nI k)), (2, .int (bI z))]) hx hb dX1_writeDown_121 hl (k := 0) rfl (nI_1 _) (by decide) rfl (fun ls hl => ?_)
        refine lv_goto (tgt := 55) hx hb dX1_writeDown_124 (by decide) ?_
        have e4 : (nI (ct (sC B L (nI k) z (smm (fun j => zz (upd U nc (nI k)) (updB Z nc z) (nc + 1) j) (pw tc))) i)) = nI (ct (sC B L (nI k) z (smm (fun j => zz (upd U nc (nI k)) (updB Z nc z) (nc + 1) j) (pw tc))) (i + 1)) := by first | exact ct_t1 (sC_d c76 c89 c108) | exact ct_f (sC_a c76) | exact ct_f (sC_b c76 c89) | exact ct_f (sC_c c108)
        have hl := lv_sub (l' := [(5, .int (nI (i + 1))), (4, .int (nI (ct (sC B L (nI k) z (smm (fun j => zz (upd U nc (nI k)) (updB Z nc z) (nc + 1) j) (pw tc))) i))), (3, .int (smm (fun j => zz (upd U nc (nI k)) (updB Z nc z) (nc + 1) j) (pw tc))), (0, .ref (r 0)), (1, .int (nI k)), (2, .int (bI z))]) hl [0, 1, 2, 3, 4, 5] rfl
        rw [e4] at hl
        rw [mrg_k (sB B L (nI k) z (smm (fun j => zz (upd U nc (nI k)) (updB Z nc z) (nc + 1) j) (pw tc))) B i (((if_neg (by rw [c76]; decide)).trans (if_pos c89)).symm)] at hP
        rw [mrg_s (sL B L F (nI k) z (smm (fun j => zz (upd U nc (nI k)) (updB Z nc z) (nc + 1) j) (pw tc))) L i (x := L i - 1) (((if_neg (by rw [c76]; decide)).trans (if_pos c89)).symm)] at hP
        exact ih ls H locs hlt hl hP hS
    · skip
      refine lv_goto (tgt := 121) hx hb dX1_writeDown_79 (by decide) ?_
      refine lv_iinc (v := nI (i + 1)) (lv' := [(5, .int (nI (i + 1))), (4, .int (nI (ct (sC B L (nI k) z (smm (fun j => zz (upd U nc (nI k)) (updB Z nc z) (nc + 1) j) (pw tc))) i))), (3, .int (smm (fun j => zz (upd U nc (nI k)) (updB Z nc z) (nc + 1) j) (pw tc))), (0, .ref (r 0)), (1, .int (nI k)), (2, .int (bI z))]) hx hb dX1_writeDown_121 hl (k := 0) rfl (nI_1 _) (by decide) rfl (fun ls hl => ?_)
      refine lv_goto (tgt := 55) hx hb dX1_writeDown_124 (by decide) ?_
      have e4 : (nI (ct (sC B L (nI k) z (smm (fun j => zz (upd U nc (nI k)) (updB Z nc z) (nc + 1) j) (pw tc))) i)) = nI (ct (sC B L (nI k) z (smm (fun j => zz (upd U nc (nI k)) (updB Z nc z) (nc + 1) j) (pw tc))) (i + 1)) := by first | exact ct_t1 (sC_d c76 c89 c108) | exact ct_f (sC_a c76) | exact ct_f (sC_b c76 c89) | exact ct_f (sC_c c108)
      have hl := lv_sub (l' := [(5, .int (nI (i + 1))), (4, .int (nI (ct (sC B L (nI k) z (smm (fun j => zz (upd U nc (nI k)) (updB Z nc z) (nc + 1) j) (pw tc))) i))), (3, .int (smm (fun j => zz (upd U nc (nI k)) (updB Z nc z) (nc + 1) j) (pw tc))), (0, .ref (r 0)), (1, .int (nI k)), (2, .int (bI z))]) hl [0, 1, 2, 3, 4, 5] rfl
      rw [e4] at hl
      rw [mrg_k (sB B L (nI k) z (smm (fun j => zz (upd U nc (nI k)) (updB Z nc z) (nc + 1) j) (pw tc))) B i ((if_pos c76).symm)] at hP
      rw [mrg_k (sL B L F (nI k) z (smm (fun j => zz (upd U nc (nI k)) (updB Z nc z) (nc + 1) j) (pw tc))) L i ((if_pos c76).symm)] at hP
      exact ih ls H locs hlt hl hP hS
set_option maxHeartbeats 4000000 in
set_option maxRecDepth 100000 in
theorem wb_M_writeDown (l : Launch) {D : va_G} {cI cZ : ClassId} {r : Nat → Nat} {th : Int32} {tc nc ac : Nat} {ch : Int32} {U : Nat → Int32} {Z : Nat → Bool} {B L F : Nat → Int32} {H : Heap} (hP : va_P D vwCl (wM cI cZ r th tc nc ac ch U Z B L F) H) (htc : tc ≤ 8) (hnc : nc ≤ 40) (hac : ac ≤ 8) (hD0 : va_D (fun _ => True) (wM cI cZ r th tc nc ac ch U Z B L F)) {v : Int32} {z : Bool} (hv : v < 1 ∨ nI (pw tc - 1) < v) : Met l yX1_writeDown wsX1_writeDown ({ frames := 3, cells := 0, slots := 0, locals := 67 }) (va_Pc [.ref (r 0), .int v, .int (bI z)] (rd D vwCl (tyA cI cZ) H)) (va_Qi (fun r (_ : Unit) => r = 0) (fun _ t8 => va_P D vwCl (wM cI cZ r 1 tc nc ac ch U Z B L F) t8.heap) (va_A (wM cI cZ r th tc nc ac ch U Z B L F) H.size)) 0 0 (va_A (wM cI cZ r th tc nc ac ch U Z B L F) H.size) := by
  refine Met.ofW (cc := cX1_writeDown) (maxL := 6) (ret := (some .int)) (by decide) rfl ?_
  intro p e s m args below meth c s₁ B9 hml hv
  obtain ⟨rfl, hH, hK⟩ := hv
  subst hH
  have hx := B9.exec
  have hb := B9.bytes
  have hr := B9.returns
  have hts := atoms_spec (ws := wsX1_writeDown) B9.pre
  have hown : s.vm.findClass RX1 = some m.cls := findClass_of_methodNamed B9.named
  have hlocks := B9.notSynchronized
  have hin : ∀ w ∈ u_ws RX1 TX1 10, w ∈ wsX1_writeDown := fun w h => List.mem_cons_of_mem _ (List.mem_append_right _ h)
  have hD0 := hD0.self (sz := s.heap.size)
  generalize hAe : va_A (wM cI cZ r th tc nc ac ch U Z B L F) s.heap.size = A at hD0 ⊢
  have hA : ∀ q : Nat, s.heap.size ≤ q → A q := fun q h => by rw [← hAe]; exact Or.inr h
  have hS : va_S A s.heap s.heap [] := va_S.rf
  have hD := hD0
  have hl := lv_entry ([.ref (r 0), .int v, .int (bI z)]) (n := 6) (Nat.le_of_ble_eq_true rfl)
  rw [lg_entry_eq]
  generalize (lg_sl ([.ref (r 0), .int v, .int (bI z)]) ++ List.replicate (6 - (lg_sl ([.ref (r 0), .int v, .int (bI z)])).length) Slot.unset).toArray = ls at hl ⊢
  have hl : lv_has ls 6 [(0, .ref (r 0)), (1, .int v), (2, .int (bI z))] := hl
  refine lv_aload_n hx hb dX1_writeDown_0 rfl (lv_at hl 0 rfl) ?_
  refine lv_iconst (v := 0) hx hb dX1_writeDown_1 (by decide) ?_
  refine va_put (D := D) (ci := 1) (v := .int 0) (ty := .int) (C := RX1) (T := TX1) (N := 10) hx hb hts hin tyX1 tyX1_ok nmX1 hown hK hP hD hS 0 rfl rfl 0 (by decide) (hts (.fieldLink RX1 26 "SmudgedStarModel" "thrown" "I") (List.mem_of_getElem? (i := 1) rfl)) (fun _ h9 => h9) rfl (by decide +kernel) rfl rfl (Nat.le_of_ble_eq_true rfl) dX1_writeDown_2 (fun H locs hP hD hS => ?_)
  have hP : va_P D vwCl (wM cI cZ r 0 tc nc ac ch U Z B L F) H := hP
  have hD : va_D A (wM cI cZ r 0 tc nc ac ch U Z B L F) := va_D_re hD rfl
  refine lv_iload_n hx hb dX1_writeDown_5 rfl (lv_at hl 1 rfl) ?_
  refine lv_iconst (v := 1) hx hb dX1_writeDown_6 (by decide) ?_
  refine lv_aload_n hx hb dX1_writeDown_7 rfl (lv_at hl 0 rfl) ?_
  refine pcV_i (As := []) (rest := [.int 1, .int v]) ⟨hx, hb, hml, hown, hts⟩ (g_M_all l hP htc hnc hac) (cwV 0 hts gX1_writeDown_X1_all rfl rfl rfl hdX1_all ⟨Nat.le_of_ble_eq_true rfl, Nat.le_of_ble_eq_true rfl⟩) (va_recv hK hP (ci := 1) (q0 := 0) rfl rfl) hK rfl hl.1 (Nat.le_of_ble_eq_true rfl) rfl dX1_writeDown_8 ⟨Nat.le_of_ble_eq_true rfl, Nat.le_of_ble_eq_true rfl⟩ ?_
  refine pcS_i (As := [.int v, .int 1, .int (nI (pw tc - 1))]) (rest := []) ⟨hx, hb, hml, hown, hts⟩ (g_M_isIn l v 1 (nI (pw tc - 1))) (va_cwS 3 hts gX1_writeDown_X1_isIn rfl rfl rfl hdX1_isIn ⟨Nat.le_of_ble_eq_true rfl, Nat.le_of_ble_eq_true rfl⟩) rfl hl.1 (Nat.le_of_ble_eq_true rfl) rfl dX1_writeDown_11 ⟨Nat.le_of_ble_eq_true rfl, Nat.le_of_ble_eq_true rfl⟩ ?_
  refine lv_ifb_ne (tgt := 23) hx hb dX1_writeDown_14 (by decide) (fun c14 => absurd (c14.symm.trans (rg_off hv)) (by decide)) (fun c14 => ?_)
  refine lv_aload_n hx hb dX1_writeDown_17 rfl (lv_at hl 0 rfl) ?_
  refine lv_iconst (v := 1) hx hb dX1_writeDown_18 (by decide) ?_
  refine wcV_i (As := [.int 1]) (rest := []) ⟨hx, hb, hml, hown, hts⟩ (w_M_no l hP htc hnc hac (hD.weaken (fun _ _ _ _ => trivial)) (v := 1)) (cwV 1 hts gX1_writeDown_X1_no rfl rfl rfl hdX1_no ⟨Nat.le_of_ble_eq_true rfl, Nat.le_of_ble_eq_true rfl⟩) (va_recv hK hP (ci := 1) (q0 := 0) rfl rfl) hK hS (va_free_all hD hS hA) rfl hl.1 (Nat.le_of_ble_eq_true rfl) rfl dX1_writeDown_19 ⟨Nat.le_of_ble_eq_true rfl, Nat.le_of_ble_eq_true rfl⟩ (fun H locs hP hz1 hk1 hS => ?_)
  have hP : va_P D vwCl (wM cI cZ r 1 tc nc ac ch U Z B L F) H := hP
  have hD : va_D A (wM cI cZ r 1 tc nc ac ch U Z B L F) := va_D_re hD rfl
  have hPe : va_P D vwCl (wM cI cZ r 1 tc nc ac ch U Z B L F) H := hP
  exact W.iret (v := 0) hx hb hr (fun t9 ht9 hW9 => ⟨⟨0, (), rfl, rfl, by show va_P D vwCl _ t9.heap; rw [ht9]; exact hPe⟩, hS.F ht9⟩) hS.2.2 dX1_writeDown_22
set_option maxHeartbeats 4000000 in
set_option maxRecDepth 100000 in
theorem wb2_M_writeDown (l : Launch) {D : va_G} {cI cZ : ClassId} {r : Nat → Nat} {th : Int32} {tc nc ac : Nat} {ch : Int32} {U : Nat → Int32} {Z : Nat → Bool} {B L F : Nat → Int32} {H : Heap} (hP : va_P D vwCl (wM cI cZ r th tc nc ac ch U Z B L F) H) (htc : tc ≤ 8) (hnc : nc ≤ 40) (hac : ac ≤ 8) (hD0 : va_D (fun _ => True) (wM cI cZ r th tc nc ac ch U Z B L F)) {k : Nat} {z : Bool} (hk0 : 1 ≤ k) (hk : k < pw tc) (h40 : nc = 40) : Met l yX1_writeDown wsX1_writeDown ({ frames := 3, cells := 0, slots := 0, locals := 67 }) (va_Pc [.ref (r 0), .int (nI k), .int (bI z)] (rd D vwCl (tyA cI cZ) H)) (va_Qi (fun r (_ : Unit) => r = 0) (fun _ t8 => va_P D vwCl (wM cI cZ r 2 tc nc ac ch U Z B L F) t8.heap) (va_A (wM cI cZ r th tc nc ac ch U Z B L F) H.size)) 0 0 (va_A (wM cI cZ r th tc nc ac ch U Z B L F) H.size) := by
  refine Met.ofW (cc := cX1_writeDown) (maxL := 6) (ret := (some .int)) (by decide) rfl ?_
  intro p e s m args below meth c s₁ B9 hml hv
  obtain ⟨rfl, hH, hK⟩ := hv
  subst hH
  have hx := B9.exec
  have hb := B9.bytes
  have hr := B9.returns
  have hts := atoms_spec (ws := wsX1_writeDown) B9.pre
  have hown : s.vm.findClass RX1 = some m.cls := findClass_of_methodNamed B9.named
  have hlocks := B9.notSynchronized
  have hin : ∀ w ∈ u_ws RX1 TX1 10, w ∈ wsX1_writeDown := fun w h => List.mem_cons_of_mem _ (List.mem_append_right _ h)
  have hD0 := hD0.self (sz := s.heap.size)
  generalize hAe : va_A (wM cI cZ r th tc nc ac ch U Z B L F) s.heap.size = A at hD0 ⊢
  have hA : ∀ q : Nat, s.heap.size ≤ q → A q := fun q h => by rw [← hAe]; exact Or.inr h
  have hS : va_S A s.heap s.heap [] := va_S.rf
  have hD := hD0
  have hl := lv_entry ([.ref (r 0), .int (nI k), .int (bI z)]) (n := 6) (Nat.le_of_ble_eq_true rfl)
  rw [lg_entry_eq]
  generalize (lg_sl ([.ref (r 0), .int (nI k), .int (bI z)]) ++ List.replicate (6 - (lg_sl ([.ref (r 0), .int (nI k), .int (bI z)])).length) Slot.unset).toArray = ls at hl ⊢
  have hl : lv_has ls 6 [(0, .ref (r 0)), (1, .int (nI k)), (2, .int (bI z))] := hl
  have hpw := pw_in htc
  refine lv_aload_n hx hb dX1_writeDown_0 rfl (lv_at hl 0 rfl) ?_
  refine lv_iconst (v := 0) hx hb dX1_writeDown_1 (by decide) ?_
  refine va_put (D := D) (ci := 1) (v := .int 0) (ty := .int) (C := RX1) (T := TX1) (N := 10) hx hb hts hin tyX1 tyX1_ok nmX1 hown hK hP hD hS 0 rfl rfl 0 (by decide) (hts (.fieldLink RX1 26 "SmudgedStarModel" "thrown" "I") (List.mem_of_getElem? (i := 1) rfl)) (fun _ h9 => h9) rfl (by decide +kernel) rfl rfl (Nat.le_of_ble_eq_true rfl) dX1_writeDown_2 (fun H locs hP hD hS => ?_)
  have hP : va_P D vwCl (wM cI cZ r 0 tc nc ac ch U Z B L F) H := hP
  have hD : va_D A (wM cI cZ r 0 tc nc ac ch U Z B L F) := va_D_re hD rfl
  refine lv_iload_n hx hb dX1_writeDown_5 rfl (lv_at hl 1 rfl) ?_
  refine lv_iconst (v := 1) hx hb dX1_writeDown_6 (by decide) ?_
  refine lv_aload_n hx hb dX1_writeDown_7 rfl (lv_at hl 0 rfl) ?_
  refine pcV_i (As := []) (rest := [.int 1, .int (nI k)]) ⟨hx, hb, hml, hown, hts⟩ (g_M_all l hP htc hnc hac) (cwV 0 hts gX1_writeDown_X1_all rfl rfl rfl hdX1_all ⟨Nat.le_of_ble_eq_true rfl, Nat.le_of_ble_eq_true rfl⟩) (va_recv hK hP (ci := 1) (q0 := 0) rfl rfl) hK rfl hl.1 (Nat.le_of_ble_eq_true rfl) rfl dX1_writeDown_8 ⟨Nat.le_of_ble_eq_true rfl, Nat.le_of_ble_eq_true rfl⟩ ?_
  refine pcS_i (As := [.int (nI k), .int 1, .int (nI (pw tc - 1))]) (rest := []) ⟨hx, hb, hml, hown, hts⟩ (g_M_isIn l (nI k) 1 (nI (pw tc - 1))) (va_cwS 3 hts gX1_writeDown_X1_isIn rfl rfl rfl hdX1_isIn ⟨Nat.le_of_ble_eq_true rfl, Nat.le_of_ble_eq_true rfl⟩) rfl hl.1 (Nat.le_of_ble_eq_true rfl) rfl dX1_writeDown_11 ⟨Nat.le_of_ble_eq_true rfl, Nat.le_of_ble_eq_true rfl⟩ ?_
  refine lv_ifb_ne (tgt := 23) hx hb dX1_writeDown_14 (by decide) (fun c14 => ?_) (fun c14 => absurd (c14.symm.trans (rg_bet (k := k) (a := 1) (n := pw tc - 1) (by omega) (by omega) (by omega))) (by decide))
  refine lv_aload_n hx hb dX1_writeDown_23 rfl (lv_at hl 0 rfl) ?_
  refine va_get (D := D) (ci := 1) (v := .int (nI nc)) (C := RX1) (T := TX1) (N := 10) hx hb hts hin hown hK hP 0 rfl rfl 2 (by decide) (hts (.fieldLink RX1 37 "SmudgedStarModel" "nights" "I") (List.mem_of_getElem? (i := 2) rfl)) (fun _ h9 => h9) rfl dX1_writeDown_24 ?_
  refine lv_bipush (v := 40) hx hb dX1_writeDown_27 (by decide) ?_
  refine lv_icmp_ne (tgt := 38) hx hb dX1_writeDown_29 (by decide) (fun c29 => absurd (by rw [h40]; rfl) c29) (fun c29 => ?_)
  refine lv_aload_n hx hb dX1_writeDown_32 rfl (lv_at hl 0 rfl) ?_
  refine lv_iconst (v := 2) hx hb dX1_writeDown_33 (by decide) ?_
  refine wcV_i (As := [.int 2]) (rest := []) ⟨hx, hb, hml, hown, hts⟩ (w_M_no l hP htc hnc hac (hD.weaken (fun _ _ _ _ => trivial)) (v := 2)) (cwV 1 hts gX1_writeDown_X1_no rfl rfl rfl hdX1_no ⟨Nat.le_of_ble_eq_true rfl, Nat.le_of_ble_eq_true rfl⟩) (va_recv hK hP (ci := 1) (q0 := 0) rfl rfl) hK hS (va_free_all hD hS hA) rfl hl.1 (Nat.le_of_ble_eq_true rfl) rfl dX1_writeDown_34 ⟨Nat.le_of_ble_eq_true rfl, Nat.le_of_ble_eq_true rfl⟩ (fun H locs hP hz1 hk1 hS => ?_)
  have hP : va_P D vwCl (wM cI cZ r 2 tc nc ac ch U Z B L F) H := hP
  have hD : va_D A (wM cI cZ r 2 tc nc ac ch U Z B L F) := va_D_re hD rfl
  have hPe : va_P D vwCl (wM cI cZ r 2 tc nc ac ch U Z B L F) H := hP
  exact W.iret (v := 0) hx hb hr (fun t9 ht9 hW9 => ⟨⟨0, (), rfl, rfl, by show va_P D vwCl _ t9.heap; rw [ht9]; exact hPe⟩, hS.F ht9⟩) hS.2.2 dX1_writeDown_37
set_option maxHeartbeats 4000000 in
set_option maxRecDepth 100000 in
theorem w_M_strike (l : Launch) {D : va_G} {cI cZ : ClassId} {r : Nat → Nat} {th : Int32} {tc nc ac : Nat} {ch : Int32} {U : Nat → Int32} {Z : Nat → Bool} {B L F : Nat → Int32} {H : Heap} (hP : va_P D vwCl (wM cI cZ r th tc nc ac ch U Z B L F) H) (htc : tc ≤ 8) (hnc : nc ≤ 40) (hac : ac ≤ 8) (hD0 : va_D (fun _ => True) (wM cI cZ r th tc nc ac ch U Z B L F)) {t : Nat} (ht : t < nc) : Met l yX1_strike wsX1_strike ({ frames := 2, cells := 0, slots := 0, locals := 43 }) (va_Pc [.ref (r 0), .int (nI t)] (rd D vwCl (tyA cI cZ) H)) (va_Qi (fun r (_ : Unit) => r = nI (nc - 1)) (fun _ t8 => va_P D vwCl (wM cI cZ r 0 tc (nc - 1) ac ch (shf U t (nc - 1)) (shf Z t (nc - 1)) B L F) t8.heap) (va_A (wM cI cZ r th tc nc ac ch U Z B L F) H.size)) 0 0 (va_A (wM cI cZ r th tc nc ac ch U Z B L F) H.size) := by
  refine Met.ofW (cc := cX1_strike) (maxL := 3) (ret := (some .int)) (by decide) rfl ?_
  intro p e s m args below meth c s₁ B9 hml hv
  obtain ⟨rfl, hH, hK⟩ := hv
  subst hH
  have hx := B9.exec
  have hb := B9.bytes
  have hr := B9.returns
  have hts := atoms_spec (ws := wsX1_strike) B9.pre
  have hown : s.vm.findClass RX1 = some m.cls := findClass_of_methodNamed B9.named
  have hlocks := B9.notSynchronized
  have hin : ∀ w ∈ u_ws RX1 TX1 10, w ∈ wsX1_strike := fun w h => List.mem_cons_of_mem _ (List.mem_append_right _ h)
  have hD0 := hD0.self (sz := s.heap.size)
  generalize hAe : va_A (wM cI cZ r th tc nc ac ch U Z B L F) s.heap.size = A at hD0 ⊢
  have hA : ∀ q : Nat, s.heap.size ≤ q → A q := fun q h => by rw [← hAe]; exact Or.inr h
  have hS : va_S A s.heap s.heap [] := va_S.rf
  have hD := hD0
  have hl := lv_entry ([.ref (r 0), .int (nI t)]) (n := 3) (Nat.le_of_ble_eq_true rfl)
  rw [lg_entry_eq]
  generalize (lg_sl ([.ref (r 0), .int (nI t)]) ++ List.replicate (3 - (lg_sl ([.ref (r 0), .int (nI t)])).length) Slot.unset).toArray = ls at hl ⊢
  have hl : lv_has ls 3 [(0, .ref (r 0)), (1, .int (nI t))] := hl
  refine lv_aload_n hx hb dX1_strike_0 rfl (lv_at hl 0 rfl) ?_
  refine lv_iconst (v := 0) hx hb dX1_strike_1 (by decide) ?_
  refine va_put (D := D) (ci := 1) (v := .int 0) (ty := .int) (C := RX1) (T := TX1) (N := 10) hx hb hts hin tyX1 tyX1_ok nmX1 hown hK hP hD hS 0 rfl rfl 0 (by decide) (hts (.fieldLink RX1 26 "SmudgedStarModel" "thrown" "I") (List.mem_of_getElem? (i := 1) rfl)) (fun _ h9 => h9) rfl (by decide +kernel) rfl rfl (Nat.le_of_ble_eq_true rfl) dX1_strike_2 (fun H locs hP hD hS => ?_)
  have hP : va_P D vwCl (wM cI cZ r 0 tc nc ac ch U Z B L F) H := hP
  have hD : va_D A (wM cI cZ r 0 tc nc ac ch U Z B L F) := va_D_re hD rfl
  refine lv_aload_n hx hb dX1_strike_5 rfl (lv_at hl 0 rfl) ?_
  refine lv_iload_n hx hb dX1_strike_6 rfl (lv_at hl 1 rfl) ?_
  refine pcV_i (As := [.int (nI t)]) (rest := []) ⟨hx, hb, hml, hown, hts⟩ (g_M_isNight l hP htc hnc hac (v := nI t)) (cwV 1 hts gX1_strike_X1_isNight rfl rfl rfl hdX1_isNight ⟨Nat.le_of_ble_eq_true rfl, Nat.le_of_ble_eq_true rfl⟩) (va_recv hK hP (ci := 1) (q0 := 0) rfl rfl) hK rfl hl.1 (Nat.le_of_ble_eq_true rfl) rfl dX1_strike_7 ⟨Nat.le_of_ble_eq_true rfl, Nat.le_of_ble_eq_true rfl⟩ ?_
  refine lv_ifb_ne (tgt := 19) hx hb dX1_strike_10 (by decide) (fun c10 => ?_) (fun c10 => absurd (c10.symm.trans (rg_in ht (by omega))) (by decide))
  refine lv_iload_n hx hb dX1_strike_19 rfl (lv_at hl 1 rfl) ?_
  refine lv_istore_n (lv' := [(2, .int (nI t)), (0, .ref (r 0)), (1, .int (nI t))]) hx hb dX1_strike_20 rfl hl (by decide) rfl (fun ls hl => ?_)
  refine w_loopH (N := nc - 1) (T := fun i => [(2, .int (nI i)), (0, .ref (r 0)), (1, .int (nI t))]) (w := fun i => wM cI cZ r 0 tc nc ac ch (shf U t i) (shf Z t i) B L F) t (by omega) (lv_sub hl [0, 1, 2] rfl) (D := D) (cl := vwCl) (by rw [shf_0, shf_0]; exact hP) hS (fun i ls H locs hi hi0 hl hP hS ih => ?_)
  have hP : va_P D vwCl (wM cI cZ r 0 tc nc ac ch (shf U t i) (shf Z t i) B L F) H := hP
  have hD : va_D A (wM cI cZ r 0 tc nc ac ch (shf U t i) (shf Z t i) B L F) := va_D_re hD0 rfl
  have hl : lv_has ls 3 [(2, .int (nI i)), (0, .ref (r 0)), (1, .int (nI t))] := hl
  refine lv_iload_n hx hb dX1_strike_21 rfl (lv_at hl 0 rfl) ?_
  refine lv_iconst (v := 1) hx hb dX1_strike_22 (by decide) ?_
  refine lv_iadd hx hb dX1_strike_23 ?_
  refine lv_cst (y := nI (i + 1)) (nI_1 i) ?_
  refine lv_aload_n hx hb dX1_strike_24 rfl (lv_at hl 1 rfl) ?_
  refine va_get (D := D) (ci := 1) (v := .int (nI nc)) (C := RX1) (T := TX1) (N := 10) hx hb hts hin hown hK hP 0 rfl rfl 2 (by decide) (hts (.fieldLink RX1 37 "SmudgedStarModel" "nights" "I") (List.mem_of_getElem? (i := 2) rfl)) (fun _ h9 => h9) rfl dX1_strike_25 ?_
  refine lv_icmp_ge (tgt := 65) hx hb dX1_strike_28 (by decide) (fun c28 => ?_) (fun c28 => ?_)
  · skip
    have hie : i = nc - 1 := gd_s_t hnc hi c28
    rw [hie] at hl
    rw [hie] at hP hD
    refine lv_aload_n hx hb dX1_strike_65 rfl (lv_at hl 1 rfl) ?_
    refine lv_dup hx hb dX1_strike_66 rfl ?_
    refine va_get (D := D) (ci := 1) (v := .int (nI nc)) (C := RX1) (T := TX1) (N := 10) hx hb hts hin hown hK hP 0 rfl rfl 2 (by decide) (hts (.fieldLink RX1 37 "SmudgedStarModel" "nights" "I") (List.mem_of_getElem? (i := 2) rfl)) (fun _ h9 => h9) rfl dX1_strike_67 ?_
    refine lv_iconst (v := 1) hx hb dX1_strike_70 (by decide) ?_
    refine lv_isub hx hb dX1_strike_71 ?_
    refine lv_cst (y := nI (nc - 1)) (pk_sub (b := 1) (by omega)) ?_
    refine va_put (D := D) (ci := 1) (v := .int (nI (nc - 1))) (ty := .int) (C := RX1) (T := TX1) (N := 10) hx hb hts hin tyX1 tyX1_ok nmX1 hown hK hP hD hS 0 rfl rfl 2 (by decide) (hts (.fieldLink RX1 37 "SmudgedStarModel" "nights" "I") (List.mem_of_getElem? (i := 2) rfl)) (fun _ h9 => h9) rfl (by decide +kernel) rfl rfl (Nat.le_of_ble_eq_true rfl) dX1_strike_72 (fun H locs hP hD hS => ?_)
    have hP : va_P D vwCl (wM cI cZ r 0 tc (nc - 1) ac ch (shf U t (nc - 1)) (shf Z t (nc - 1)) B L F) H := hP
    have hD : va_D A (wM cI cZ r 0 tc (nc - 1) ac ch (shf U t (nc - 1)) (shf Z t (nc - 1)) B L F) := va_D_re hD rfl
    refine lv_aload_n hx hb dX1_strike_75 rfl (lv_at hl 1 rfl) ?_
    refine va_get (D := D) (ci := 1) (v := .int (nI (nc - 1))) (C := RX1) (T := TX1) (N := 10) hx hb hts hin hown hK hP 0 rfl rfl 2 (by decide) (hts (.fieldLink RX1 37 "SmudgedStarModel" "nights" "I") (List.mem_of_getElem? (i := 2) rfl)) (fun _ h9 => h9) rfl dX1_strike_76 ?_
    have hPe : va_P D vwCl (wM cI cZ r 0 tc (nc - 1) ac ch (shf U t (nc - 1)) (shf Z t (nc - 1)) B L F) H := hP
    exact W.iret (v := nI (nc - 1)) hx hb hr (fun t9 ht9 hW9 => ⟨⟨nI (nc - 1), (), rfl, rfl, by show va_P D vwCl _ t9.heap; rw [ht9]; exact hPe⟩, hS.F ht9⟩) hS.2.2 dX1_strike_79
  · skip
    have hlt : i < nc - 1 := gd_s_f hnc hi c28
    refine lv_aload_n hx hb dX1_strike_31 rfl (lv_at hl 1 rfl) ?_
    refine va_get (D := D) (ci := 1) (v := .ref (r 1)) (C := RX1) (T := TX1) (N := 10) hx hb hts hin hown hK hP 0 rfl rfl 3 (by decide) (hts (.fieldLink RX1 9 "SmudgedStarModel" "used" "[I") (List.mem_of_getElem? (i := 3) rfl)) (fun _ h9 => h9) rfl dX1_strike_32 ?_
    refine lv_iload_n hx hb dX1_strike_35 rfl (lv_at hl 0 rfl) ?_
    refine lv_aload_n hx hb dX1_strike_36 rfl (lv_at hl 1 rfl) ?_
    refine va_get (D := D) (ci := 1) (v := .ref (r 1)) (C := RX1) (T := TX1) (N := 10) hx hb hts hin hown hK hP 0 rfl rfl 3 (by decide) (hts (.fieldLink RX1 9 "SmudgedStarModel" "used" "[I") (List.mem_of_getElem? (i := 3) rfl)) (fun _ h9 => h9) rfl dX1_strike_37 ?_
    refine lv_iload_n hx hb dX1_strike_40 rfl (lv_at hl 0 rfl) ?_
    refine lv_iconst (v := 1) hx hb dX1_strike_41 (by decide) ?_
    refine lv_iadd hx hb dX1_strike_42 ?_
    refine lv_cst (y := nI (i + 1)) (nI_1 i) ?_
    refine ia_ld hx hb hK hP 1 0 rfl rfl (j := (i + 1)) (by omega) (by decide) dX1_strike_43 ?_
    refine lv_cst (y := U (i + 1)) (shf_at _ _ _) ?_
    refine ia_st hx hb hK hP hD hS 1 0 rfl rfl (j := i) (by omega) (by decide) dX1_strike_44 (fun H locs hP hS => ?_)
    have hP : va_P D vwCl (wM cI cZ r 0 tc nc ac ch (upd (shf U t i) i (U (i + 1))) (shf Z t i) B L F) H := hP
    have hD : va_D A (wM cI cZ r 0 tc nc ac ch (upd (shf U t i) i (U (i + 1))) (shf Z t i) B L F) := va_D_re hD rfl
    refine lv_aload_n hx hb dX1_strike_45 rfl (lv_at hl 1 rfl) ?_
    refine va_get (D := D) (ci := 1) (v := .ref (r 2)) (C := RX1) (T := TX1) (N := 10) hx hb hts hin hown hK hP 0 rfl rfl 4 (by decide) (hts (.fieldLink RX1 13 "SmudgedStarModel" "smudged" "[Z") (List.mem_of_getElem? (i := 4) rfl)) (fun _ h9 => h9) rfl dX1_strike_46 ?_
    refine lv_iload_n hx hb dX1_strike_49 rfl (lv_at hl 0 rfl) ?_
    refine lv_aload_n hx hb dX1_strike_50 rfl (lv_at hl 1 rfl) ?_
    refine va_get (D := D) (ci := 1) (v := .ref (r 2)) (C := RX1) (T := TX1) (N := 10) hx hb hts hin hown hK hP 0 rfl rfl 4 (by decide) (hts (.fieldLink RX1 13 "SmudgedStarModel" "smudged" "[Z") (List.mem_of_getElem? (i := 4) rfl)) (fun _ h9 => h9) rfl dX1_strike_51 ?_
    refine lv_iload_n hx hb dX1_strike_54 rfl (lv_at hl 0 rfl) ?_
    refine lv_iconst (v := 1) hx hb dX1_strike_55 (by decide) ?_
    refine lv_iadd hx hb dX1_strike_56 ?_
    refine lv_cst (y := nI (i + 1)) (nI_1 i) ?_
    refine za_ld (f := shf Z t i) hx hb hK hP 2 1 rfl rfl (j := (i + 1)) (by omega) (by decide) dX1_strike_57 ?_
    refine lv_cst (y := bI (Z (i + 1))) (congrArg bI (shf_at _ _ _)) ?_
    refine za_st (f := shf Z t i) hx hb hK hP hD hS 2 1 rfl rfl (j := i) (by omega) (by decide) dX1_strike_58 (fun H locs hP hS => ?_)
    have hP : va_P D vwCl (wM cI cZ r 0 tc nc ac ch (upd (shf U t i) i (U (i + 1))) (updB (shf Z t i) i (Z (i + 1))) B L F) H := hP
    have hD : va_D A (wM cI cZ r 0 tc nc ac ch (upd (shf U t i) i (U (i + 1))) (updB (shf Z t i) i (Z (i + 1))) B L F) := va_D_re hD rfl
    refine lv_iinc (v := nI (i + 1)) (lv' := [(2, .int (nI (i + 1))), (0, .ref (r 0)), (1, .int (nI t))]) hx hb dX1_strike_59 hl (k := 0) rfl (nI_1 _) (by decide) rfl (fun ls hl => ?_)
    refine lv_goto (tgt := 21) hx hb dX1_strike_62 (by decide) ?_
    have hl := lv_sub (l' := [(2, .int (nI (i + 1))), (0, .ref (r 0)), (1, .int (nI t))]) hl [0, 1, 2] rfl
    rw [shf_s U (g := t) (i := i) hi0 rfl, shfB_s Z (g := t) (i := i) hi0 rfl] at hP
    exact ih ls H locs hlt hl hP hS
set_option maxHeartbeats 4000000 in
set_option maxRecDepth 100000 in
theorem wb_M_strike (l : Launch) {D : va_G} {cI cZ : ClassId} {r : Nat → Nat} {th : Int32} {tc nc ac : Nat} {ch : Int32} {U : Nat → Int32} {Z : Nat → Bool} {B L F : Nat → Int32} {H : Heap} (hP : va_P D vwCl (wM cI cZ r th tc nc ac ch U Z B L F) H) (htc : tc ≤ 8) (hnc : nc ≤ 40) (hac : ac ≤ 8) (hD0 : va_D (fun _ => True) (wM cI cZ r th tc nc ac ch U Z B L F)) {v : Int32} (hv : v < 0 ∨ nI nc ≤ v) : Met l yX1_strike wsX1_strike ({ frames := 2, cells := 0, slots := 0, locals := 43 }) (va_Pc [.ref (r 0), .int v] (rd D vwCl (tyA cI cZ) H)) (va_Qi (fun r (_ : Unit) => r = 0) (fun _ t8 => va_P D vwCl (wM cI cZ r 1 tc nc ac ch U Z B L F) t8.heap) (va_A (wM cI cZ r th tc nc ac ch U Z B L F) H.size)) 0 0 (va_A (wM cI cZ r th tc nc ac ch U Z B L F) H.size) := by
  refine Met.ofW (cc := cX1_strike) (maxL := 3) (ret := (some .int)) (by decide) rfl ?_
  intro p e s m args below meth c s₁ B9 hml hv
  obtain ⟨rfl, hH, hK⟩ := hv
  subst hH
  have hx := B9.exec
  have hb := B9.bytes
  have hr := B9.returns
  have hts := atoms_spec (ws := wsX1_strike) B9.pre
  have hown : s.vm.findClass RX1 = some m.cls := findClass_of_methodNamed B9.named
  have hlocks := B9.notSynchronized
  have hin : ∀ w ∈ u_ws RX1 TX1 10, w ∈ wsX1_strike := fun w h => List.mem_cons_of_mem _ (List.mem_append_right _ h)
  have hD0 := hD0.self (sz := s.heap.size)
  generalize hAe : va_A (wM cI cZ r th tc nc ac ch U Z B L F) s.heap.size = A at hD0 ⊢
  have hA : ∀ q : Nat, s.heap.size ≤ q → A q := fun q h => by rw [← hAe]; exact Or.inr h
  have hS : va_S A s.heap s.heap [] := va_S.rf
  have hD := hD0
  have hl := lv_entry ([.ref (r 0), .int v]) (n := 3) (Nat.le_of_ble_eq_true rfl)
  rw [lg_entry_eq]
  generalize (lg_sl ([.ref (r 0), .int v]) ++ List.replicate (3 - (lg_sl ([.ref (r 0), .int v])).length) Slot.unset).toArray = ls at hl ⊢
  have hl : lv_has ls 3 [(0, .ref (r 0)), (1, .int v)] := hl
  refine lv_aload_n hx hb dX1_strike_0 rfl (lv_at hl 0 rfl) ?_
  refine lv_iconst (v := 0) hx hb dX1_strike_1 (by decide) ?_
  refine va_put (D := D) (ci := 1) (v := .int 0) (ty := .int) (C := RX1) (T := TX1) (N := 10) hx hb hts hin tyX1 tyX1_ok nmX1 hown hK hP hD hS 0 rfl rfl 0 (by decide) (hts (.fieldLink RX1 26 "SmudgedStarModel" "thrown" "I") (List.mem_of_getElem? (i := 1) rfl)) (fun _ h9 => h9) rfl (by decide +kernel) rfl rfl (Nat.le_of_ble_eq_true rfl) dX1_strike_2 (fun H locs hP hD hS => ?_)
  have hP : va_P D vwCl (wM cI cZ r 0 tc nc ac ch U Z B L F) H := hP
  have hD : va_D A (wM cI cZ r 0 tc nc ac ch U Z B L F) := va_D_re hD rfl
  refine lv_aload_n hx hb dX1_strike_5 rfl (lv_at hl 0 rfl) ?_
  refine lv_iload_n hx hb dX1_strike_6 rfl (lv_at hl 1 rfl) ?_
  refine pcV_i (As := [.int v]) (rest := []) ⟨hx, hb, hml, hown, hts⟩ (g_M_isNight l hP htc hnc hac (v := v)) (cwV 1 hts gX1_strike_X1_isNight rfl rfl rfl hdX1_isNight ⟨Nat.le_of_ble_eq_true rfl, Nat.le_of_ble_eq_true rfl⟩) (va_recv hK hP (ci := 1) (q0 := 0) rfl rfl) hK rfl hl.1 (Nat.le_of_ble_eq_true rfl) rfl dX1_strike_7 ⟨Nat.le_of_ble_eq_true rfl, Nat.le_of_ble_eq_true rfl⟩ ?_
  refine lv_ifb_ne (tgt := 19) hx hb dX1_strike_10 (by decide) (fun c10 => absurd (c10.symm.trans (rg_out (n := nc) (by omega) hv)) (by decide)) (fun c10 => ?_)
  refine lv_aload_n hx hb dX1_strike_13 rfl (lv_at hl 0 rfl) ?_
  refine lv_iconst (v := 1) hx hb dX1_strike_14 (by decide) ?_
  refine wcV_i (As := [.int 1]) (rest := []) ⟨hx, hb, hml, hown, hts⟩ (w_M_no l hP htc hnc hac (hD.weaken (fun _ _ _ _ => trivial)) (v := 1)) (cwV 1 hts gX1_strike_X1_no rfl rfl rfl hdX1_no ⟨Nat.le_of_ble_eq_true rfl, Nat.le_of_ble_eq_true rfl⟩) (va_recv hK hP (ci := 1) (q0 := 0) rfl rfl) hK hS (va_free_all hD hS hA) rfl hl.1 (Nat.le_of_ble_eq_true rfl) rfl dX1_strike_15 ⟨Nat.le_of_ble_eq_true rfl, Nat.le_of_ble_eq_true rfl⟩ (fun H locs hP hz1 hk1 hS => ?_)
  have hP : va_P D vwCl (wM cI cZ r 1 tc nc ac ch U Z B L F) H := hP
  have hD : va_D A (wM cI cZ r 1 tc nc ac ch U Z B L F) := va_D_re hD rfl
  have hPe : va_P D vwCl (wM cI cZ r 1 tc nc ac ch U Z B L F) H := hP
  exact W.iret (v := 0) hx hb hr (fun t9 ht9 hW9 => ⟨⟨0, (), rfl, rfl, by show va_P D vwCl _ t9.heap; rw [ht9]; exact hPe⟩, hS.F ht9⟩) hS.2.2 dX1_strike_18
set_option maxHeartbeats 4000000 in
set_option maxRecDepth 100000 in
theorem w_M_explainsAll (l : Launch) {D : va_G} {cI cZ : ClassId} {r : Nat → Nat} {th : Int32} {tc nc ac : Nat} {ch : Int32} {U : Nat → Int32} {Z : Nat → Bool} {B L F : Nat → Int32} {H : Heap} (hP : va_P D vwCl (wM cI cZ r th tc nc ac ch U Z B L F) H) (htc : tc ≤ 8) (hnc : nc ≤ 40) (hac : ac ≤ 8) (hD0 : va_D (fun _ => True) (wM cI cZ r th tc nc ac ch U Z B L F)) {k : Nat} (hk : k < pw tc) : Met l yX1_explainsAll wsX1_explainsAll ({ frames := 2, cells := 0, slots := 0, locals := 45 }) (va_Pc [.ref (r 0), .int (nI k)] (rd D vwCl (tyA cI cZ) H)) (va_Qi (fun r (_ : Unit) => r = bI (zz U Z nc k)) (fun _ t8 => va_P D vwCl (wM cI cZ r 0 tc nc ac ch U Z B L F) t8.heap) (va_A (wM cI cZ r th tc nc ac ch U Z B L F) H.size)) 0 0 (va_A (wM cI cZ r th tc nc ac ch U Z B L F) H.size) := by
  refine Met.ofW (cc := cX1_explainsAll) (maxL := 2) (ret := (some .boolean)) (by decide) rfl ?_
  intro p e s m args below meth c s₁ B9 hml hv
  obtain ⟨rfl, hH, hK⟩ := hv
  subst hH
  have hx := B9.exec
  have hb := B9.bytes
  have hr := B9.returns
  have hts := atoms_spec (ws := wsX1_explainsAll) B9.pre
  have hown : s.vm.findClass RX1 = some m.cls := findClass_of_methodNamed B9.named
  have hlocks := B9.notSynchronized
  have hin : ∀ w ∈ u_ws RX1 TX1 10, w ∈ wsX1_explainsAll := fun w h => List.mem_cons_of_mem _ (List.mem_append_right _ h)
  have hD0 := hD0.self (sz := s.heap.size)
  generalize hAe : va_A (wM cI cZ r th tc nc ac ch U Z B L F) s.heap.size = A at hD0 ⊢
  have hA : ∀ q : Nat, s.heap.size ≤ q → A q := fun q h => by rw [← hAe]; exact Or.inr h
  have hS : va_S A s.heap s.heap [] := va_S.rf
  have hD := hD0
  have hl := lv_entry ([.ref (r 0), .int (nI k)]) (n := 2) (Nat.le_of_ble_eq_true rfl)
  rw [lg_entry_eq]
  generalize (lg_sl ([.ref (r 0), .int (nI k)]) ++ List.replicate (2 - (lg_sl ([.ref (r 0), .int (nI k)])).length) Slot.unset).toArray = ls at hl ⊢
  have hl : lv_has ls 2 [(0, .ref (r 0)), (1, .int (nI k))] := hl
  have hpw := pw_in htc
  refine lv_aload_n hx hb dX1_explainsAll_0 rfl (lv_at hl 0 rfl) ?_
  refine lv_iconst (v := 0) hx hb dX1_explainsAll_1 (by decide) ?_
  refine va_put (D := D) (ci := 1) (v := .int 0) (ty := .int) (C := RX1) (T := TX1) (N := 10) hx hb hts hin tyX1 tyX1_ok nmX1 hown hK hP hD hS 0 rfl rfl 0 (by decide) (hts (.fieldLink RX1 26 "SmudgedStarModel" "thrown" "I") (List.mem_of_getElem? (i := 1) rfl)) (fun _ h9 => h9) rfl (by decide +kernel) rfl rfl (Nat.le_of_ble_eq_true rfl) dX1_explainsAll_2 (fun H locs hP hD hS => ?_)
  have hP : va_P D vwCl (wM cI cZ r 0 tc nc ac ch U Z B L F) H := hP
  have hD : va_D A (wM cI cZ r 0 tc nc ac ch U Z B L F) := va_D_re hD rfl
  refine lv_iload_n hx hb dX1_explainsAll_5 rfl (lv_at hl 1 rfl) ?_
  refine lv_iconst (v := 0) hx hb dX1_explainsAll_6 (by decide) ?_
  refine lv_aload_n hx hb dX1_explainsAll_7 rfl (lv_at hl 0 rfl) ?_
  refine pcV_i (As := []) (rest := [.int 0, .int (nI k)]) ⟨hx, hb, hml, hown, hts⟩ (g_M_all l hP htc hnc hac) (cwV 0 hts gX1_explainsAll_X1_all rfl rfl rfl hdX1_all ⟨Nat.le_of_ble_eq_true rfl, Nat.le_of_ble_eq_true rfl⟩) (va_recv hK hP (ci := 1) (q0 := 0) rfl rfl) hK rfl hl.1 (Nat.le_of_ble_eq_true rfl) rfl dX1_explainsAll_8 ⟨Nat.le_of_ble_eq_true rfl, Nat.le_of_ble_eq_true rfl⟩ ?_
  refine pcS_i (As := [.int (nI k), .int 0, .int (nI (pw tc - 1))]) (rest := []) ⟨hx, hb, hml, hown, hts⟩ (g_M_isIn l (nI k) 0 (nI (pw tc - 1))) (va_cwS 3 hts gX1_explainsAll_X1_isIn rfl rfl rfl hdX1_isIn ⟨Nat.le_of_ble_eq_true rfl, Nat.le_of_ble_eq_true rfl⟩) rfl hl.1 (Nat.le_of_ble_eq_true rfl) rfl dX1_explainsAll_11 ⟨Nat.le_of_ble_eq_true rfl, Nat.le_of_ble_eq_true rfl⟩ ?_
  refine lv_ifb_eq (tgt := 33) hx hb dX1_explainsAll_14 (by decide) (fun c14 => absurd (c14.symm.trans (rg_bet (k := k) (a := 0) (n := pw tc - 1) (by omega) (by omega) (by omega))) (by decide)) (fun c14 => ?_)
  refine lv_aload_n hx hb dX1_explainsAll_17 rfl (lv_at hl 0 rfl) ?_
  refine lv_iload_n hx hb dX1_explainsAll_18 rfl (lv_at hl 1 rfl) ?_
  refine pcV_i (As := [.int (nI k)]) (rest := []) ⟨hx, hb, hml, hown, hts⟩ (g_M_unexplained l hP htc hnc hac (v := nI k)) (cwV 1 hts gX1_explainsAll_X1_unexplained rfl rfl rfl hdX1_unexplained ⟨Nat.le_of_ble_eq_true rfl, Nat.le_of_ble_eq_true rfl⟩) (va_recv hK hP (ci := 1) (q0 := 0) rfl rfl) hK rfl hl.1 (Nat.le_of_ble_eq_true rfl) rfl dX1_explainsAll_19 ⟨Nat.le_of_ble_eq_true rfl, Nat.le_of_ble_eq_true rfl⟩ ?_
  refine lv_if_ne (tgt := 29) hx hb dX1_explainsAll_22 (by decide) (fun c22 => ?_) (fun c22 => ?_)
  · skip
    refine lv_iconst (v := 0) hx hb dX1_explainsAll_29 (by decide) ?_
    refine lv_goto (tgt := 38) hx hb dX1_explainsAll_30 (by decide) ?_
    have hPe : va_P D vwCl (wM cI cZ r 0 tc nc ac ch U Z B L F) H := hP
    exact W.zret (v := 0) (ty := .boolean) hx hb hr (rfl) (fun t9 ht9 hW9 => ⟨⟨0, (), rfl, (by rw [zz_f c22]; rfl), by show va_P D vwCl _ t9.heap; rw [ht9]; exact hPe⟩, hS.F ht9⟩) hS.2.2 dX1_explainsAll_38
  · skip
    refine lv_iconst (v := 1) hx hb dX1_explainsAll_25 (by decide) ?_
    refine lv_goto (tgt := 38) hx hb dX1_explainsAll_26 (by decide) ?_
    have hPe : va_P D vwCl (wM cI cZ r 0 tc nc ac ch U Z B L F) H := hP
    exact W.zret (v := 1) (ty := .boolean) hx hb hr (rfl) (fun t9 ht9 hW9 => ⟨⟨1, (), rfl, (by rw [zz_t c22]; rfl), by show va_P D vwCl _ t9.heap; rw [ht9]; exact hPe⟩, hS.F ht9⟩) hS.2.2 dX1_explainsAll_38
set_option maxHeartbeats 4000000 in
set_option maxRecDepth 100000 in
theorem wb_M_explainsAll (l : Launch) {D : va_G} {cI cZ : ClassId} {r : Nat → Nat} {th : Int32} {tc nc ac : Nat} {ch : Int32} {U : Nat → Int32} {Z : Nat → Bool} {B L F : Nat → Int32} {H : Heap} (hP : va_P D vwCl (wM cI cZ r th tc nc ac ch U Z B L F) H) (htc : tc ≤ 8) (hnc : nc ≤ 40) (hac : ac ≤ 8) (hD0 : va_D (fun _ => True) (wM cI cZ r th tc nc ac ch U Z B L F)) {v : Int32} (hv : v < 0 ∨ nI (pw tc - 1) < v) : Met l yX1_explainsAll wsX1_explainsAll ({ frames := 2, cells := 0, slots := 0, locals := 45 }) (va_Pc [.ref (r 0), .int v] (rd D vwCl (tyA cI cZ) H)) (va_Qi (fun r (_ : Unit) => r = 0) (fun _ t8 => va_P D vwCl (wM cI cZ r 1 tc nc ac ch U Z B L F) t8.heap) (va_A (wM cI cZ r th tc nc ac ch U Z B L F) H.size)) 0 0 (va_A (wM cI cZ r th tc nc ac ch U Z B L F) H.size) := by
  refine Met.ofW (cc := cX1_explainsAll) (maxL := 2) (ret := (some .boolean)) (by decide) rfl ?_
  intro p e s m args below meth c s₁ B9 hml hv
  obtain ⟨rfl, hH, hK⟩ := hv
  subst hH
  have hx := B9.exec
  have hb := B9.bytes
  have hr := B9.returns
  have hts := atoms_spec (ws := wsX1_explainsAll) B9.pre
  have hown : s.vm.findClass RX1 = some m.cls := findClass_of_methodNamed B9.named
  have hlocks := B9.notSynchronized
  have hin : ∀ w ∈ u_ws RX1 TX1 10, w ∈ wsX1_explainsAll := fun w h => List.mem_cons_of_mem _ (List.mem_append_right _ h)
  have hD0 := hD0.self (sz := s.heap.size)
  generalize hAe : va_A (wM cI cZ r th tc nc ac ch U Z B L F) s.heap.size = A at hD0 ⊢
  have hA : ∀ q : Nat, s.heap.size ≤ q → A q := fun q h => by rw [← hAe]; exact Or.inr h
  have hS : va_S A s.heap s.heap [] := va_S.rf
  have hD := hD0
  have hl := lv_entry ([.ref (r 0), .int v]) (n := 2) (Nat.le_of_ble_eq_true rfl)
  rw [lg_entry_eq]
  generalize (lg_sl ([.ref (r 0), .int v]) ++ List.replicate (2 - (lg_sl ([.ref (r 0), .int v])).length) Slot.unset).toArray = ls at hl ⊢
  have hl : lv_has ls 2 [(0, .ref (r 0)), (1, .int v)] := hl
  refine lv_aload_n hx hb dX1_explainsAll_0 rfl (lv_at hl 0 rfl) ?_
  refine lv_iconst (v := 0) hx hb dX1_explainsAll_1 (by decide) ?_
  refine va_put (D := D) (ci := 1) (v := .int 0) (ty := .int) (C := RX1) (T := TX1) (N := 10) hx hb hts hin tyX1 tyX1_ok nmX1 hown hK hP hD hS 0 rfl rfl 0 (by decide) (hts (.fieldLink RX1 26 "SmudgedStarModel" "thrown" "I") (List.mem_of_getElem? (i := 1) rfl)) (fun _ h9 => h9) rfl (by decide +kernel) rfl rfl (Nat.le_of_ble_eq_true rfl) dX1_explainsAll_2 (fun H locs hP hD hS => ?_)
  have hP : va_P D vwCl (wM cI cZ r 0 tc nc ac ch U Z B L F) H := hP
  have hD : va_D A (wM cI cZ r 0 tc nc ac ch U Z B L F) := va_D_re hD rfl
  refine lv_iload_n hx hb dX1_explainsAll_5 rfl (lv_at hl 1 rfl) ?_
  refine lv_iconst (v := 0) hx hb dX1_explainsAll_6 (by decide) ?_
  refine lv_aload_n hx hb dX1_explainsAll_7 rfl (lv_at hl 0 rfl) ?_
  refine pcV_i (As := []) (rest := [.int 0, .int v]) ⟨hx, hb, hml, hown, hts⟩ (g_M_all l hP htc hnc hac) (cwV 0 hts gX1_explainsAll_X1_all rfl rfl rfl hdX1_all ⟨Nat.le_of_ble_eq_true rfl, Nat.le_of_ble_eq_true rfl⟩) (va_recv hK hP (ci := 1) (q0 := 0) rfl rfl) hK rfl hl.1 (Nat.le_of_ble_eq_true rfl) rfl dX1_explainsAll_8 ⟨Nat.le_of_ble_eq_true rfl, Nat.le_of_ble_eq_true rfl⟩ ?_
  refine pcS_i (As := [.int v, .int 0, .int (nI (pw tc - 1))]) (rest := []) ⟨hx, hb, hml, hown, hts⟩ (g_M_isIn l v 0 (nI (pw tc - 1))) (va_cwS 3 hts gX1_explainsAll_X1_isIn rfl rfl rfl hdX1_isIn ⟨Nat.le_of_ble_eq_true rfl, Nat.le_of_ble_eq_true rfl⟩) rfl hl.1 (Nat.le_of_ble_eq_true rfl) rfl dX1_explainsAll_11 ⟨Nat.le_of_ble_eq_true rfl, Nat.le_of_ble_eq_true rfl⟩ ?_
  refine lv_ifb_eq (tgt := 33) hx hb dX1_explainsAll_14 (by decide) (fun c14 => ?_) (fun c14 => absurd (c14.symm.trans (rg_off hv)) (by decide))
  refine lv_aload_n hx hb dX1_explainsAll_33 rfl (lv_at hl 0 rfl) ?_
  refine lv_iconst (v := 1) hx hb dX1_explainsAll_34 (by decide) ?_
  refine wcV_i (As := [.int 1]) (rest := []) ⟨hx, hb, hml, hown, hts⟩ (w_M_isNot l hP htc hnc hac (hD.weaken (fun _ _ _ _ => trivial)) (v := 1)) (cwV 1 hts gX1_explainsAll_X1_isNot rfl rfl rfl hdX1_isNot ⟨Nat.le_of_ble_eq_true rfl, Nat.le_of_ble_eq_true rfl⟩) (va_recv hK hP (ci := 1) (q0 := 0) rfl rfl) hK hS (va_free_all hD hS hA) rfl hl.1 (Nat.le_of_ble_eq_true rfl) rfl dX1_explainsAll_35 ⟨Nat.le_of_ble_eq_true rfl, Nat.le_of_ble_eq_true rfl⟩ (fun H locs hP hz1 hk1 hS => ?_)
  have hP : va_P D vwCl (wM cI cZ r 1 tc nc ac ch U Z B L F) H := hP
  have hD : va_D A (wM cI cZ r 1 tc nc ac ch U Z B L F) := va_D_re hD rfl
  have hPe : va_P D vwCl (wM cI cZ r 1 tc nc ac ch U Z B L F) H := hP
  exact W.zret (v := 0) (ty := .boolean) hx hb hr (rfl) (fun t9 ht9 hW9 => ⟨⟨0, (), rfl, rfl, by show va_P D vwCl _ t9.heap; rw [ht9]; exact hPe⟩, hS.F ht9⟩) hS.2.2 dX1_explainsAll_38
set_option maxHeartbeats 4000000 in
set_option maxRecDepth 100000 in
theorem w_M_leftIfSmudged (l : Launch) {D : va_G} {cI cZ : ClassId} {r : Nat → Nat} {th : Int32} {tc nc ac : Nat} {ch : Int32} {U : Nat → Int32} {Z : Nat → Bool} {B L F : Nat → Int32} {H : Heap} (hP : va_P D vwCl (wM cI cZ r th tc nc ac ch U Z B L F) H) (htc : tc ≤ 8) (hnc : nc ≤ 40) (hac : ac ≤ 8) (hD0 : va_D (fun _ => True) (wM cI cZ r th tc nc ac ch U Z B L F)) {k : Nat} (hk0 : 1 ≤ k) (hk : k < pw tc) : Met l yX1_leftIfSmudged wsX1_leftIfSmudged ({ frames := 3, cells := 0, slots := 0, locals := 68 }) (va_Pc [.ref (r 0), .int (nI k)] (rd D vwCl (tyA cI cZ) H)) (va_Qi (fun r (_ : Unit) => r = nI (mt U Z nc (pw tc) (nI k))) (fun _ t8 => va_P D vwCl (wM cI cZ r 0 tc nc ac ch U Z B L F) t8.heap) (va_A (wM cI cZ r th tc nc ac ch U Z B L F) H.size)) 0 0 (va_A (wM cI cZ r th tc nc ac ch U Z B L F) H.size) := by
  refine Met.ofW (cc := cX1_leftIfSmudged) (maxL := 2) (ret := (some .int)) (by decide) rfl ?_
  intro p e s m args below meth c s₁ B9 hml hv
  obtain ⟨rfl, hH, hK⟩ := hv
  subst hH
  have hx := B9.exec
  have hb := B9.bytes
  have hr := B9.returns
  have hts := atoms_spec (ws := wsX1_leftIfSmudged) B9.pre
  have hown : s.vm.findClass RX1 = some m.cls := findClass_of_methodNamed B9.named
  have hlocks := B9.notSynchronized
  have hin : ∀ w ∈ u_ws RX1 TX1 10, w ∈ wsX1_leftIfSmudged := fun w h => List.mem_cons_of_mem _ (List.mem_append_right _ h)
  have hD0 := hD0.self (sz := s.heap.size)
  generalize hAe : va_A (wM cI cZ r th tc nc ac ch U Z B L F) s.heap.size = A at hD0 ⊢
  have hA : ∀ q : Nat, s.heap.size ≤ q → A q := fun q h => by rw [← hAe]; exact Or.inr h
  have hS : va_S A s.heap s.heap [] := va_S.rf
  have hD := hD0
  have hl := lv_entry ([.ref (r 0), .int (nI k)]) (n := 2) (Nat.le_of_ble_eq_true rfl)
  rw [lg_entry_eq]
  generalize (lg_sl ([.ref (r 0), .int (nI k)]) ++ List.replicate (2 - (lg_sl ([.ref (r 0), .int (nI k)])).length) Slot.unset).toArray = ls at hl ⊢
  have hl : lv_has ls 2 [(0, .ref (r 0)), (1, .int (nI k))] := hl
  have hpw := pw_in htc
  refine lv_aload_n hx hb dX1_leftIfSmudged_0 rfl (lv_at hl 0 rfl) ?_
  refine lv_iconst (v := 0) hx hb dX1_leftIfSmudged_1 (by decide) ?_
  refine va_put (D := D) (ci := 1) (v := .int 0) (ty := .int) (C := RX1) (T := TX1) (N := 10) hx hb hts hin tyX1 tyX1_ok nmX1 hown hK hP hD hS 0 rfl rfl 0 (by decide) (hts (.fieldLink RX1 26 "SmudgedStarModel" "thrown" "I") (List.mem_of_getElem? (i := 1) rfl)) (fun _ h9 => h9) rfl (by decide +kernel) rfl rfl (Nat.le_of_ble_eq_true rfl) dX1_leftIfSmudged_2 (fun H locs hP hD hS => ?_)
  have hP : va_P D vwCl (wM cI cZ r 0 tc nc ac ch U Z B L F) H := hP
  have hD : va_D A (wM cI cZ r 0 tc nc ac ch U Z B L F) := va_D_re hD rfl
  refine lv_iload_n hx hb dX1_leftIfSmudged_5 rfl (lv_at hl 1 rfl) ?_
  refine lv_iconst (v := 1) hx hb dX1_leftIfSmudged_6 (by decide) ?_
  refine lv_aload_n hx hb dX1_leftIfSmudged_7 rfl (lv_at hl 0 rfl) ?_
  refine pcV_i (As := []) (rest := [.int 1, .int (nI k)]) ⟨hx, hb, hml, hown, hts⟩ (g_M_all l hP htc hnc hac) (cwV 0 hts gX1_leftIfSmudged_X1_all rfl rfl rfl hdX1_all ⟨Nat.le_of_ble_eq_true rfl, Nat.le_of_ble_eq_true rfl⟩) (va_recv hK hP (ci := 1) (q0 := 0) rfl rfl) hK rfl hl.1 (Nat.le_of_ble_eq_true rfl) rfl dX1_leftIfSmudged_8 ⟨Nat.le_of_ble_eq_true rfl, Nat.le_of_ble_eq_true rfl⟩ ?_
  refine pcS_i (As := [.int (nI k), .int 1, .int (nI (pw tc - 1))]) (rest := []) ⟨hx, hb, hml, hown, hts⟩ (g_M_isIn l (nI k) 1 (nI (pw tc - 1))) (va_cwS 3 hts gX1_leftIfSmudged_X1_isIn rfl rfl rfl hdX1_isIn ⟨Nat.le_of_ble_eq_true rfl, Nat.le_of_ble_eq_true rfl⟩) rfl hl.1 (Nat.le_of_ble_eq_true rfl) rfl dX1_leftIfSmudged_11 ⟨Nat.le_of_ble_eq_true rfl, Nat.le_of_ble_eq_true rfl⟩ ?_
  refine lv_ifb_eq (tgt := 25) hx hb dX1_leftIfSmudged_14 (by decide) (fun c14 => absurd (c14.symm.trans (rg_bet (k := k) (a := 1) (n := pw tc - 1) (by omega) (by omega) (by omega))) (by decide)) (fun c14 => ?_)
  refine lv_aload_n hx hb dX1_leftIfSmudged_17 rfl (lv_at hl 0 rfl) ?_
  refine lv_iload_n hx hb dX1_leftIfSmudged_18 rfl (lv_at hl 1 rfl) ?_
  refine pcV_i (As := [.int (nI k)]) (rest := []) ⟨hx, hb, hml, hown, hts⟩ (g_M_meeting l hP htc hnc hac (u := nI k)) (cwV 1 hts gX1_leftIfSmudged_X1_meeting rfl rfl rfl hdX1_meeting ⟨Nat.le_of_ble_eq_true rfl, Nat.le_of_ble_eq_true rfl⟩) (va_recv hK hP (ci := 1) (q0 := 0) rfl rfl) hK rfl hl.1 (Nat.le_of_ble_eq_true rfl) rfl dX1_leftIfSmudged_19 ⟨Nat.le_of_ble_eq_true rfl, Nat.le_of_ble_eq_true rfl⟩ ?_
  refine lv_goto (tgt := 30) hx hb dX1_leftIfSmudged_22 (by decide) ?_
  have hPe : va_P D vwCl (wM cI cZ r 0 tc nc ac ch U Z B L F) H := hP
  exact W.iret (v := nI (mt U Z nc (pw tc) (nI k))) hx hb hr (fun t9 ht9 hW9 => ⟨⟨nI (mt U Z nc (pw tc) (nI k)), (), rfl, rfl, by show va_P D vwCl _ t9.heap; rw [ht9]; exact hPe⟩, hS.F ht9⟩) hS.2.2 dX1_leftIfSmudged_30
set_option maxHeartbeats 4000000 in
set_option maxRecDepth 100000 in
theorem wb_M_leftIfSmudged (l : Launch) {D : va_G} {cI cZ : ClassId} {r : Nat → Nat} {th : Int32} {tc nc ac : Nat} {ch : Int32} {U : Nat → Int32} {Z : Nat → Bool} {B L F : Nat → Int32} {H : Heap} (hP : va_P D vwCl (wM cI cZ r th tc nc ac ch U Z B L F) H) (htc : tc ≤ 8) (hnc : nc ≤ 40) (hac : ac ≤ 8) (hD0 : va_D (fun _ => True) (wM cI cZ r th tc nc ac ch U Z B L F)) {v : Int32} (hv : v < 1 ∨ nI (pw tc - 1) < v) : Met l yX1_leftIfSmudged wsX1_leftIfSmudged ({ frames := 3, cells := 0, slots := 0, locals := 68 }) (va_Pc [.ref (r 0), .int v] (rd D vwCl (tyA cI cZ) H)) (va_Qi (fun r (_ : Unit) => r = 0) (fun _ t8 => va_P D vwCl (wM cI cZ r 1 tc nc ac ch U Z B L F) t8.heap) (va_A (wM cI cZ r th tc nc ac ch U Z B L F) H.size)) 0 0 (va_A (wM cI cZ r th tc nc ac ch U Z B L F) H.size) := by
  refine Met.ofW (cc := cX1_leftIfSmudged) (maxL := 2) (ret := (some .int)) (by decide) rfl ?_
  intro p e s m args below meth c s₁ B9 hml hv
  obtain ⟨rfl, hH, hK⟩ := hv
  subst hH
  have hx := B9.exec
  have hb := B9.bytes
  have hr := B9.returns
  have hts := atoms_spec (ws := wsX1_leftIfSmudged) B9.pre
  have hown : s.vm.findClass RX1 = some m.cls := findClass_of_methodNamed B9.named
  have hlocks := B9.notSynchronized
  have hin : ∀ w ∈ u_ws RX1 TX1 10, w ∈ wsX1_leftIfSmudged := fun w h => List.mem_cons_of_mem _ (List.mem_append_right _ h)
  have hD0 := hD0.self (sz := s.heap.size)
  generalize hAe : va_A (wM cI cZ r th tc nc ac ch U Z B L F) s.heap.size = A at hD0 ⊢
  have hA : ∀ q : Nat, s.heap.size ≤ q → A q := fun q h => by rw [← hAe]; exact Or.inr h
  have hS : va_S A s.heap s.heap [] := va_S.rf
  have hD := hD0
  have hl := lv_entry ([.ref (r 0), .int v]) (n := 2) (Nat.le_of_ble_eq_true rfl)
  rw [lg_entry_eq]
  generalize (lg_sl ([.ref (r 0), .int v]) ++ List.replicate (2 - (lg_sl ([.ref (r 0), .int v])).length) Slot.unset).toArray = ls at hl ⊢
  have hl : lv_has ls 2 [(0, .ref (r 0)), (1, .int v)] := hl
  refine lv_aload_n hx hb dX1_leftIfSmudged_0 rfl (lv_at hl 0 rfl) ?_
  refine lv_iconst (v := 0) hx hb dX1_leftIfSmudged_1 (by decide) ?_
  refine va_put (D := D) (ci := 1) (v := .int 0) (ty := .int) (C := RX1) (T := TX1) (N := 10) hx hb hts hin tyX1 tyX1_ok nmX1 hown hK hP hD hS 0 rfl rfl 0 (by decide) (hts (.fieldLink RX1 26 "SmudgedStarModel" "thrown" "I") (List.mem_of_getElem? (i := 1) rfl)) (fun _ h9 => h9) rfl (by decide +kernel) rfl rfl (Nat.le_of_ble_eq_true rfl) dX1_leftIfSmudged_2 (fun H locs hP hD hS => ?_)
  have hP : va_P D vwCl (wM cI cZ r 0 tc nc ac ch U Z B L F) H := hP
  have hD : va_D A (wM cI cZ r 0 tc nc ac ch U Z B L F) := va_D_re hD rfl
  refine lv_iload_n hx hb dX1_leftIfSmudged_5 rfl (lv_at hl 1 rfl) ?_
  refine lv_iconst (v := 1) hx hb dX1_leftIfSmudged_6 (by decide) ?_
  refine lv_aload_n hx hb dX1_leftIfSmudged_7 rfl (lv_at hl 0 rfl) ?_
  refine pcV_i (As := []) (rest := [.int 1, .int v]) ⟨hx, hb, hml, hown, hts⟩ (g_M_all l hP htc hnc hac) (cwV 0 hts gX1_leftIfSmudged_X1_all rfl rfl rfl hdX1_all ⟨Nat.le_of_ble_eq_true rfl, Nat.le_of_ble_eq_true rfl⟩) (va_recv hK hP (ci := 1) (q0 := 0) rfl rfl) hK rfl hl.1 (Nat.le_of_ble_eq_true rfl) rfl dX1_leftIfSmudged_8 ⟨Nat.le_of_ble_eq_true rfl, Nat.le_of_ble_eq_true rfl⟩ ?_
  refine pcS_i (As := [.int v, .int 1, .int (nI (pw tc - 1))]) (rest := []) ⟨hx, hb, hml, hown, hts⟩ (g_M_isIn l v 1 (nI (pw tc - 1))) (va_cwS 3 hts gX1_leftIfSmudged_X1_isIn rfl rfl rfl hdX1_isIn ⟨Nat.le_of_ble_eq_true rfl, Nat.le_of_ble_eq_true rfl⟩) rfl hl.1 (Nat.le_of_ble_eq_true rfl) rfl dX1_leftIfSmudged_11 ⟨Nat.le_of_ble_eq_true rfl, Nat.le_of_ble_eq_true rfl⟩ ?_
  refine lv_ifb_eq (tgt := 25) hx hb dX1_leftIfSmudged_14 (by decide) (fun c14 => ?_) (fun c14 => absurd (c14.symm.trans (rg_off hv)) (by decide))
  refine lv_aload_n hx hb dX1_leftIfSmudged_25 rfl (lv_at hl 0 rfl) ?_
  refine lv_iconst (v := 1) hx hb dX1_leftIfSmudged_26 (by decide) ?_
  refine wcV_i (As := [.int 1]) (rest := []) ⟨hx, hb, hml, hown, hts⟩ (w_M_no l hP htc hnc hac (hD.weaken (fun _ _ _ _ => trivial)) (v := 1)) (cwV 1 hts gX1_leftIfSmudged_X1_no rfl rfl rfl hdX1_no ⟨Nat.le_of_ble_eq_true rfl, Nat.le_of_ble_eq_true rfl⟩) (va_recv hK hP (ci := 1) (q0 := 0) rfl rfl) hK hS (va_free_all hD hS hA) rfl hl.1 (Nat.le_of_ble_eq_true rfl) rfl dX1_leftIfSmudged_27 ⟨Nat.le_of_ble_eq_true rfl, Nat.le_of_ble_eq_true rfl⟩ (fun H locs hP hz1 hk1 hS => ?_)
  have hP : va_P D vwCl (wM cI cZ r 1 tc nc ac ch U Z B L F) H := hP
  have hD : va_D A (wM cI cZ r 1 tc nc ac ch U Z B L F) := va_D_re hD rfl
  have hPe : va_P D vwCl (wM cI cZ r 1 tc nc ac ch U Z B L F) H := hP
  exact W.iret (v := 0) hx hb hr (fun t9 ht9 hW9 => ⟨⟨0, (), rfl, rfl, by show va_P D vwCl _ t9.heap; rw [ht9]; exact hPe⟩, hS.F ht9⟩) hS.2.2 dX1_leftIfSmudged_30
set_option maxHeartbeats 4000000 in
set_option maxRecDepth 100000 in
theorem w_M_bestNight (l : Launch) {D : va_G} {cI cZ : ClassId} {r : Nat → Nat} {th : Int32} {tc nc ac : Nat} {ch : Int32} {U : Nat → Int32} {Z : Nat → Bool} {B L F : Nat → Int32} {H : Heap} (hP : va_P D vwCl (wM cI cZ r th tc nc ac ch U Z B L F) H) (htc : tc ≤ 8) (hnc : nc ≤ 40) (hac : ac ≤ 8) (hD0 : va_D (fun _ => True) (wM cI cZ r th tc nc ac ch U Z B L F)) : Met l yX1_bestNight wsX1_bestNight ({ frames := 3, cells := 0, slots := 0, locals := 68 }) (va_Pc [.ref (r 0)] (rd D vwCl (tyA cI cZ) H)) (va_Qi (fun r (_ : Unit) => r = (bm (lf U Z nc (pw tc)) (pw tc - 1)).1) (fun _ t8 => va_P D vwCl (wM cI cZ r 0 tc nc ac ch U Z B L F) t8.heap) (va_A (wM cI cZ r th tc nc ac ch U Z B L F) H.size)) 0 0 (va_A (wM cI cZ r th tc nc ac ch U Z B L F) H.size) := by
  refine Met.ofW (cc := cX1_bestNight) (maxL := 7) (ret := (some .int)) (by decide) rfl ?_
  intro p e s m args below meth c s₁ B9 hml hv
  obtain ⟨rfl, hH, hK⟩ := hv
  subst hH
  have hx := B9.exec
  have hb := B9.bytes
  have hr := B9.returns
  have hts := atoms_spec (ws := wsX1_bestNight) B9.pre
  have hown : s.vm.findClass RX1 = some m.cls := findClass_of_methodNamed B9.named
  have hlocks := B9.notSynchronized
  have hin : ∀ w ∈ u_ws RX1 TX1 10, w ∈ wsX1_bestNight := fun w h => List.mem_cons_of_mem _ (List.mem_append_right _ h)
  have hD0 := hD0.self (sz := s.heap.size)
  generalize hAe : va_A (wM cI cZ r th tc nc ac ch U Z B L F) s.heap.size = A at hD0 ⊢
  have hA : ∀ q : Nat, s.heap.size ≤ q → A q := fun q h => by rw [← hAe]; exact Or.inr h
  have hS : va_S A s.heap s.heap [] := va_S.rf
  have hD := hD0
  have hl := lv_entry ([.ref (r 0)]) (n := 7) (Nat.le_of_ble_eq_true rfl)
  rw [lg_entry_eq]
  generalize (lg_sl ([.ref (r 0)]) ++ List.replicate (7 - (lg_sl ([.ref (r 0)])).length) Slot.unset).toArray = ls at hl ⊢
  have hl : lv_has ls 7 [(0, .ref (r 0))] := hl
  have hpw := pw_in htc
  refine lv_aload_n hx hb dX1_bestNight_0 rfl (lv_at hl 0 rfl) ?_
  refine lv_iconst (v := 0) hx hb dX1_bestNight_1 (by decide) ?_
  refine va_put (D := D) (ci := 1) (v := .int 0) (ty := .int) (C := RX1) (T := TX1) (N := 10) hx hb hts hin tyX1 tyX1_ok nmX1 hown hK hP hD hS 0 rfl rfl 0 (by decide) (hts (.fieldLink RX1 26 "SmudgedStarModel" "thrown" "I") (List.mem_of_getElem? (i := 1) rfl)) (fun _ h9 => h9) rfl (by decide +kernel) rfl rfl (Nat.le_of_ble_eq_true rfl) dX1_bestNight_2 (fun H locs hP hD hS => ?_)
  have hP : va_P D vwCl (wM cI cZ r 0 tc nc ac ch U Z B L F) H := hP
  have hD : va_D A (wM cI cZ r 0 tc nc ac ch U Z B L F) := va_D_re hD rfl
  refine lv_aload_n hx hb dX1_bestNight_5 rfl (lv_at hl 0 rfl) ?_
  refine pcV_i (As := []) (rest := []) ⟨hx, hb, hml, hown, hts⟩ (g_M_explaining l hP htc hnc hac) (cwV 0 hts gX1_bestNight_X1_explaining rfl rfl rfl hdX1_explaining ⟨Nat.le_of_ble_eq_true rfl, Nat.le_of_ble_eq_true rfl⟩) (va_recv hK hP (ci := 1) (q0 := 0) rfl rfl) hK rfl hl.1 (Nat.le_of_ble_eq_true rfl) rfl dX1_bestNight_6 ⟨Nat.le_of_ble_eq_true rfl, Nat.le_of_ble_eq_true rfl⟩ ?_
  refine lv_istore_n (lv' := [(1, .int (nI (ex U Z nc (pw tc)))), (0, .ref (r 0))]) hx hb dX1_bestNight_9 rfl hl (by decide) rfl (fun ls hl => ?_)
  refine lv_iconst (v := (-1)) hx hb dX1_bestNight_10 (by decide) ?_
  refine lv_istore_n (lv' := [(2, .int (-1)), (1, .int (nI (ex U Z nc (pw tc)))), (0, .ref (r 0))]) hx hb dX1_bestNight_11 rfl hl (by decide) rfl (fun ls hl => ?_)
  refine lv_iconst (v := 0) hx hb dX1_bestNight_12 (by decide) ?_
  refine lv_istore_n (lv' := [(3, .int 0), (2, .int (-1)), (1, .int (nI (ex U Z nc (pw tc)))), (0, .ref (r 0))]) hx hb dX1_bestNight_13 rfl hl (by decide) rfl (fun ls hl => ?_)
  refine lv_iconst (v := 1) hx hb dX1_bestNight_14 (by decide) ?_
  refine lv_istore (lv' := [(4, .int 1), (3, .int 0), (2, .int (-1)), (1, .int (nI (ex U Z nc (pw tc)))), (0, .ref (r 0))]) hx hb dX1_bestNight_15 hl (by decide) rfl (fun ls hl => ?_)
  refine w_loop (N := pw tc - 1) (T := fun i => [(4, .int (nI (i + 1))), (3, .int ((bm (lf U Z nc (pw tc)) i).2)), (2, .int ((bm (lf U Z nc (pw tc)) i).1)), (1, .int (nI (ex U Z nc (pw tc)))), (0, .ref (r 0))]) (I := fun _ => True) 0 (Nat.zero_le _) trivial (lv_sub hl [0, 1, 2, 3, 4] rfl) (fun i ls hi hI hl ih => ?_)
  have hl : lv_has ls 7 [(4, .int (nI (i + 1))), (3, .int ((bm (lf U Z nc (pw tc)) i).2)), (2, .int ((bm (lf U Z nc (pw tc)) i).1)), (1, .int (nI (ex U Z nc (pw tc)))), (0, .ref (r 0))] := hl
  refine lv_iload hx hb dX1_bestNight_17 (lv_at hl 0 rfl) ?_
  refine lv_aload_n hx hb dX1_bestNight_19 rfl (lv_at hl 4 rfl) ?_
  refine pcV_i (As := []) (rest := [.int (nI (i + 1))]) ⟨hx, hb, hml, hown, hts⟩ (g_M_all l hP htc hnc hac) (cwV 0 hts gX1_bestNight_X1_all rfl rfl rfl hdX1_all ⟨Nat.le_of_ble_eq_true rfl, Nat.le_of_ble_eq_true rfl⟩) (va_recv hK hP (ci := 1) (q0 := 0) rfl rfl) hK rfl hl.1 (Nat.le_of_ble_eq_true rfl) rfl dX1_bestNight_20 ⟨Nat.le_of_ble_eq_true rfl, Nat.le_of_ble_eq_true rfl⟩ ?_
  refine lv_icmp_gt (tgt := 71) hx hb dX1_bestNight_23 (by decide) (fun c23 => ?_) (fun c23 => ?_)
  · skip
    have hie : i = pw tc - 1 := gd_b_t htc hi c23
    rw [hie] at hl
    refine lv_iload_n hx hb dX1_bestNight_71 rfl (lv_at hl 2 rfl) ?_
    have hPe : va_P D vwCl (wM cI cZ r 0 tc nc ac ch U Z B L F) H := hP
    exact W.iret (v := (bm (lf U Z nc (pw tc)) (pw tc - 1)).1) hx hb hr (fun t9 ht9 hW9 => ⟨⟨(bm (lf U Z nc (pw tc)) (pw tc - 1)).1, (), rfl, rfl, by show va_P D vwCl _ t9.heap; rw [ht9]; exact hPe⟩, hS.F ht9⟩) hS.2.2 dX1_bestNight_72
  · skip
    have hlt : i < pw tc - 1 := gd_b_f htc hi c23
    refine lv_aload_n hx hb dX1_bestNight_26 rfl (lv_at hl 4 rfl) ?_
    refine lv_iload hx hb dX1_bestNight_27 (lv_at hl 0 rfl) ?_
    refine pcV_i (As := [.int (nI (i + 1))]) (rest := []) ⟨hx, hb, hml, hown, hts⟩ (g_M_meeting l hP htc hnc hac (u := nI (i + 1))) (cwV 1 hts gX1_bestNight_X1_meeting rfl rfl rfl hdX1_meeting ⟨Nat.le_of_ble_eq_true rfl, Nat.le_of_ble_eq_true rfl⟩) (va_recv hK hP (ci := 1) (q0 := 0) rfl rfl) hK rfl hl.1 (Nat.le_of_ble_eq_true rfl) rfl dX1_bestNight_29 ⟨Nat.le_of_ble_eq_true rfl, Nat.le_of_ble_eq_true rfl⟩ ?_
    refine lv_istore (lv' := [(5, .int (nI (mt U Z nc (pw tc) (nI (i + 1))))), (4, .int (nI (i + 1))), (3, .int ((bm (lf U Z nc (pw tc)) i).2)), (2, .int ((bm (lf U Z nc (pw tc)) i).1)), (1, .int (nI (ex U Z nc (pw tc)))), (0, .ref (r 0))]) hx hb dX1_bestNight_32 hl (by decide) rfl (fun ls hl => ?_)
    refine lv_iload hx hb dX1_bestNight_34 (lv_at hl 0 rfl) ?_
    refine lv_iload_n hx hb dX1_bestNight_36 rfl (lv_at hl 4 rfl) ?_
    refine lv_iload hx hb dX1_bestNight_37 (lv_at hl 0 rfl) ?_
    refine lv_isub hx hb dX1_bestNight_39 ?_
    refine va_mmax hx hb (by rw [hml]; exact hl.1.symm) hown (hts (.methodLink RX1 134 Lib.Math.max.name) (List.mem_of_getElem? (i := 2) rfl)) (hts (.static Lib.Math.max.name) (List.mem_of_getElem? (i := 3) rfl)) (hts (.initialized "java/lang/Math") (List.mem_of_getElem? (i := 4) rfl)) (hts (.code Lib.Math.max.name Lib.Math.max.code 2 (some .int)) (List.mem_of_getElem? (i := 5) rfl)) (Nat.le_of_ble_eq_true rfl) (Nat.le_of_ble_eq_true rfl) (Nat.le_of_ble_eq_true rfl) (Nat.le_of_ble_eq_true rfl) dX1_bestNight_40 ?_
    refine lv_istore (lv' := [(6, .int (if nI (mt U Z nc (pw tc) (nI (i + 1))) < (nI (ex U Z nc (pw tc))) - (nI (mt U Z nc (pw tc) (nI (i + 1)))) then (nI (ex U Z nc (pw tc))) - (nI (mt U Z nc (pw tc) (nI (i + 1)))) else nI (mt U Z nc (pw tc) (nI (i + 1))))), (5, .int (nI (mt U Z nc (pw tc) (nI (i + 1))))), (4, .int (nI (i + 1))), (3, .int ((bm (lf U Z nc (pw tc)) i).2)), (2, .int ((bm (lf U Z nc (pw tc)) i).1)), (1, .int (nI (ex U Z nc (pw tc)))), (0, .ref (r 0))]) hx hb dX1_bestNight_43 hl (by decide) rfl (fun ls hl => ?_)
    refine lv_iload_n hx hb dX1_bestNight_45 rfl (lv_at hl 4 rfl) ?_
    refine lv_iconst (v := (-1)) hx hb dX1_bestNight_46 (by decide) ?_
    refine lv_icmp_eq (tgt := 59) hx hb dX1_bestNight_47 (by decide) (fun c47 => ?_) (fun c47 => ?_)
    · skip
      refine lv_iload hx hb dX1_bestNight_59 (lv_at hl 2 rfl) ?_
      refine lv_istore_n (lv' := [(2, .int (nI (i + 1))), (6, .int (if nI (mt U Z nc (pw tc) (nI (i + 1))) < (nI (ex U Z nc (pw tc))) - (nI (mt U Z nc (pw tc) (nI (i + 1)))) then (nI (ex U Z nc (pw tc))) - (nI (mt U Z nc (pw tc) (nI (i + 1)))) else nI (mt U Z nc (pw tc) (nI (i + 1))))), (5, .int (nI (mt U Z nc (pw tc) (nI (i + 1))))), (4, .int (nI (i + 1))), (3, .int ((bm (lf U Z nc (pw tc)) i).2)), (1, .int (nI (ex U Z nc (pw tc)))), (0, .ref (r 0))]) hx hb dX1_bestNight_61 rfl hl (by decide) rfl (fun ls hl => ?_)
      refine lv_iload hx hb dX1_bestNight_62 (lv_at hl 1 rfl) ?_
      refine lv_istore_n (lv' := [(3, .int (if nI (mt U Z nc (pw tc) (nI (i + 1))) < (nI (ex U Z nc (pw tc))) - (nI (mt U Z nc (pw tc) (nI (i + 1)))) then (nI (ex U Z nc (pw tc))) - (nI (mt U Z nc (pw tc) (nI (i + 1)))) else nI (mt U Z nc (pw tc) (nI (i + 1))))), (2, .int (nI (i + 1))), (6, .int (if nI (mt U Z nc (pw tc) (nI (i + 1))) < (nI (ex U Z nc (pw tc))) - (nI (mt U Z nc (pw tc) (nI (i + 1)))) then (nI (ex U Z nc (pw tc))) - (nI (mt U Z nc (pw tc) (nI (i + 1)))) else nI (mt U Z nc (pw tc) (nI (i + 1))))), (5, .int (nI (mt U Z nc (pw tc) (nI (i + 1))))), (4, .int (nI (i + 1))), (1, .int (nI (ex U Z nc (pw tc)))), (0, .ref (r 0))]) hx hb dX1_bestNight_64 rfl hl (by decide) rfl (fun ls hl => ?_)
      refine lv_iinc (v := nI ((i + 1) + 1)) (lv' := [(4, .int (nI ((i + 1) + 1))), (3, .int (if nI (mt U Z nc (pw tc) (nI (i + 1))) < (nI (ex U Z nc (pw tc))) - (nI (mt U Z nc (pw tc) (nI (i + 1)))) then (nI (ex U Z nc (pw tc))) - (nI (mt U Z nc (pw tc) (nI (i + 1)))) else nI (mt U Z nc (pw tc) (nI (i + 1))))), (2, .int (nI (i + 1))), (6, .int (if nI (mt U Z nc (pw tc) (nI (i + 1))) < (nI (ex U Z nc (pw tc))) - (nI (mt U Z nc (pw tc) (nI (i + 1)))) then (nI (ex U Z nc (pw tc))) - (nI (mt U Z nc (pw tc) (nI (i + 1)))) else nI (mt U Z nc (pw tc) (nI (i + 1))))), (5, .int (nI (mt U Z nc (pw tc) (nI (i + 1))))), (1, .int (nI (ex U Z nc (pw tc)))), (0, .ref (r 0))]) hx hb dX1_bestNight_65 hl (k := 4) rfl (nI_1 _) (by decide) rfl (fun ls hl => ?_)
      refine lv_goto (tgt := 17) hx hb dX1_bestNight_68 (by decide) ?_
      have e3 : (if nI (mt U Z nc (pw tc) (nI (i + 1))) < (nI (ex U Z nc (pw tc))) - (nI (mt U Z nc (pw tc) (nI (i + 1)))) then (nI (ex U Z nc (pw tc))) - (nI (mt U Z nc (pw tc) (nI (i + 1)))) else nI (mt U Z nc (pw tc) (nI (i + 1)))) = (bm (lf U Z nc (pw tc)) (i + 1)).2 := by first | rw [bm_f (f := lf U Z nc (pw tc)) (n := i) c47 c53] | (rw [bm_a (f := lf U Z nc (pw tc)) (n := i) c47]; rfl) | (rw [bm_b (f := lf U Z nc (pw tc)) (n := i) c53]; rfl)
      have e2 : (nI (i + 1)) = (bm (lf U Z nc (pw tc)) (i + 1)).1 := by first | rw [bm_f (f := lf U Z nc (pw tc)) (n := i) c47 c53] | rw [bm_a (f := lf U Z nc (pw tc)) (n := i) c47] | rw [bm_b (f := lf U Z nc (pw tc)) (n := i) c53]
      have hl := lv_sub (l' := [(4, .int (nI ((i + 1) + 1))), (3, .int (if nI (mt U Z nc (pw tc) (nI (i + 1))) < (nI (ex U Z nc (pw tc))) - (nI (mt U Z nc (pw tc) (nI (i + 1)))) then (nI (ex U Z nc (pw tc))) - (nI (mt U Z nc (pw tc) (nI (i + 1)))) else nI (mt U Z nc (pw tc) (nI (i + 1))))), (2, .int (nI (i + 1))), (1, .int (nI (ex U Z nc (pw tc)))), (0, .ref (r 0))]) hl [0, 1, 2, 5, 6] rfl
      rw [e3, e2] at hl
      exact ih ls hlt trivial hl
    · skip
      refine lv_iload hx hb dX1_bestNight_50 (lv_at hl 0 rfl) ?_
      refine lv_iload_n hx hb dX1_bestNight_52 rfl (lv_at hl 3 rfl) ?_
      refine lv_icmp_lt (tgt := 59) hx hb dX1_bestNight_53 (by decide) (fun c53 => ?_) (fun c53 => ?_)
      · skip
        refine lv_iload hx hb dX1_bestNight_59 (lv_at hl 2 rfl) ?_
        refine lv_istore_n (lv' := [(2, .int (nI (i + 1))), (6, .int (if nI (mt U Z nc (pw tc) (nI (i + 1))) < (nI (ex U Z nc (pw tc))) - (nI (mt U Z nc (pw tc) (nI (i + 1)))) then (nI (ex U Z nc (pw tc))) - (nI (mt U Z nc (pw tc) (nI (i + 1)))) else nI (mt U Z nc (pw tc) (nI (i + 1))))), (5, .int (nI (mt U Z nc (pw tc) (nI (i + 1))))), (4, .int (nI (i + 1))), (3, .int ((bm (lf U Z nc (pw tc)) i).2)), (1, .int (nI (ex U Z nc (pw tc)))), (0, .ref (r 0))]) hx hb dX1_bestNight_61 rfl hl (by decide) rfl (fun ls hl => ?_)
        refine lv_iload hx hb dX1_bestNight_62 (lv_at hl 1 rfl) ?_
        refine lv_istore_n (lv' := [(3, .int (if nI (mt U Z nc (pw tc) (nI (i + 1))) < (nI (ex U Z nc (pw tc))) - (nI (mt U Z nc (pw tc) (nI (i + 1)))) then (nI (ex U Z nc (pw tc))) - (nI (mt U Z nc (pw tc) (nI (i + 1)))) else nI (mt U Z nc (pw tc) (nI (i + 1))))), (2, .int (nI (i + 1))), (6, .int (if nI (mt U Z nc (pw tc) (nI (i + 1))) < (nI (ex U Z nc (pw tc))) - (nI (mt U Z nc (pw tc) (nI (i + 1)))) then (nI (ex U Z nc (pw tc))) - (nI (mt U Z nc (pw tc) (nI (i + 1)))) else nI (mt U Z nc (pw tc) (nI (i + 1))))), (5, .int (nI (mt U Z nc (pw tc) (nI (i + 1))))), (4, .int (nI (i + 1))), (1, .int (nI (ex U Z nc (pw tc)))), (0, .ref (r 0))]) hx hb dX1_bestNight_64 rfl hl (by decide) rfl (fun ls hl => ?_)
        refine lv_iinc (v := nI ((i + 1) + 1)) (lv' := [(4, .int (nI ((i + 1) + 1))), (3, .int (if nI (mt U Z nc (pw tc) (nI (i + 1))) < (nI (ex U Z nc (pw tc))) - (nI (mt U Z nc (pw tc) (nI (i + 1)))) then (nI (ex U Z nc (pw tc))) - (nI (mt U Z nc (pw tc) (nI (i + 1)))) else nI (mt U Z nc (pw tc) (nI (i + 1))))), (2, .int (nI (i + 1))), (6, .int (if nI (mt U Z nc (pw tc) (nI (i + 1))) < (nI (ex U Z nc (pw tc))) - (nI (mt U Z nc (pw tc) (nI (i + 1)))) then (nI (ex U Z nc (pw tc))) - (nI (mt U Z nc (pw tc) (nI (i + 1)))) else nI (mt U Z nc (pw tc) (nI (i + 1))))), (5, .int (nI (mt U Z nc (pw tc) (nI (i + 1))))), (1, .int (nI (ex U Z nc (pw tc)))), (0, .ref (r 0))]) hx hb dX1_bestNight_65 hl (k := 4) rfl (nI_1 _) (by decide) rfl (fun ls hl => ?_)
        refine lv_goto (tgt := 17) hx hb dX1_bestNight_68 (by decide) ?_
        have e3 : (if nI (mt U Z nc (pw tc) (nI (i + 1))) < (nI (ex U Z nc (pw tc))) - (nI (mt U Z nc (pw tc) (nI (i + 1)))) then (nI (ex U Z nc (pw tc))) - (nI (mt U Z nc (pw tc) (nI (i + 1)))) else nI (mt U Z nc (pw tc) (nI (i + 1)))) = (bm (lf U Z nc (pw tc)) (i + 1)).2 := by first | rw [bm_f (f := lf U Z nc (pw tc)) (n := i) c47 c53] | (rw [bm_a (f := lf U Z nc (pw tc)) (n := i) c47]; rfl) | (rw [bm_b (f := lf U Z nc (pw tc)) (n := i) c53]; rfl)
        have e2 : (nI (i + 1)) = (bm (lf U Z nc (pw tc)) (i + 1)).1 := by first | rw [bm_f (f := lf U Z nc (pw tc)) (n := i) c47 c53] | rw [bm_a (f := lf U Z nc (pw tc)) (n := i) c47] | rw [bm_b (f := lf U Z nc (pw tc)) (n := i) c53]
        have hl := lv_sub (l' := [(4, .int (nI ((i + 1) + 1))), (3, .int (if nI (mt U Z nc (pw tc) (nI (i + 1))) < (nI (ex U Z nc (pw tc))) - (nI (mt U Z nc (pw tc) (nI (i + 1)))) then (nI (ex U Z nc (pw tc))) - (nI (mt U Z nc (pw tc) (nI (i + 1)))) else nI (mt U Z nc (pw tc) (nI (i + 1))))), (2, .int (nI (i + 1))), (1, .int (nI (ex U Z nc (pw tc)))), (0, .ref (r 0))]) hl [0, 1, 2, 5, 6] rfl
        rw [e3, e2] at hl
        exact ih ls hlt trivial hl
      · skip
        refine lv_goto (tgt := 65) hx hb dX1_bestNight_56 (by decide) ?_
        refine lv_iinc (v := nI ((i + 1) + 1)) (lv' := [(4, .int (nI ((i + 1) + 1))), (6, .int (if nI (mt U Z nc (pw tc) (nI (i + 1))) < (nI (ex U Z nc (pw tc))) - (nI (mt U Z nc (pw tc) (nI (i + 1)))) then (nI (ex U Z nc (pw tc))) - (nI (mt U Z nc (pw tc) (nI (i + 1)))) else nI (mt U Z nc (pw tc) (nI (i + 1))))), (5, .int (nI (mt U Z nc (pw tc) (nI (i + 1))))), (3, .int ((bm (lf U Z nc (pw tc)) i).2)), (2, .int ((bm (lf U Z nc (pw tc)) i).1)), (1, .int (nI (ex U Z nc (pw tc)))), (0, .ref (r 0))]) hx hb dX1_bestNight_65 hl (k := 2) rfl (nI_1 _) (by decide) rfl (fun ls hl => ?_)
        refine lv_goto (tgt := 17) hx hb dX1_bestNight_68 (by decide) ?_
        have e3 : ((bm (lf U Z nc (pw tc)) i).2) = (bm (lf U Z nc (pw tc)) (i + 1)).2 := by first | rw [bm_f (f := lf U Z nc (pw tc)) (n := i) c47 c53] | (rw [bm_a (f := lf U Z nc (pw tc)) (n := i) c47]; rfl) | (rw [bm_b (f := lf U Z nc (pw tc)) (n := i) c53]; rfl)
        have e2 : ((bm (lf U Z nc (pw tc)) i).1) = (bm (lf U Z nc (pw tc)) (i + 1)).1 := by first | rw [bm_f (f := lf U Z nc (pw tc)) (n := i) c47 c53] | rw [bm_a (f := lf U Z nc (pw tc)) (n := i) c47] | rw [bm_b (f := lf U Z nc (pw tc)) (n := i) c53]
        have hl := lv_sub (l' := [(4, .int (nI ((i + 1) + 1))), (3, .int ((bm (lf U Z nc (pw tc)) i).2)), (2, .int ((bm (lf U Z nc (pw tc)) i).1)), (1, .int (nI (ex U Z nc (pw tc)))), (0, .ref (r 0))]) hl [0, 3, 4, 5, 6] rfl
        rw [e3, e2] at hl
        exact ih ls hlt trivial hl
set_option maxHeartbeats 4000000 in
set_option maxRecDepth 100000 in
theorem w_M_wouldChange (l : Launch) {D : va_G} {cI cZ : ClassId} {r : Nat → Nat} {th : Int32} {tc nc ac : Nat} {ch : Int32} {U : Nat → Int32} {Z : Nat → Bool} {B L F : Nat → Int32} {H : Heap} (hP : va_P D vwCl (wM cI cZ r th tc nc ac ch U Z B L F) H) (htc : tc ≤ 8) (hnc : nc ≤ 40) (hac : ac ≤ 8) (hD0 : va_D (fun _ => True) (wM cI cZ r th tc nc ac ch U Z B L F)) {k : Nat} {z : Bool} (hk0 : 1 ≤ k) (hk : k < pw tc) (h40 : nc < 40) : Met l yX1_wouldChange wsX1_wouldChange ({ frames := 3, cells := 0, slots := 0, locals := 67 }) (va_Pc [.ref (r 0), .int (nI k), .int (bI z)] (rd D vwCl (tyA cI cZ) H)) (va_Qi (fun r (_ : Unit) => r = nI (ct (fun a => !(decide (smm (fun j => zz (upd U nc (nI k)) (updB Z nc z) (nc + 1) j) (pw tc) = -1)) && decide (L a = 0) && !(sx (B a) (nI k) z)) ac)) (fun _ t8 => va_P D vwCl (wM cI cZ r 0 tc nc ac ch (upd U nc (nI k)) (updB Z nc z) B L F) t8.heap) (va_A (wM cI cZ r th tc nc ac ch U Z B L F) H.size)) 0 0 (va_A (wM cI cZ r th tc nc ac ch U Z B L F) H.size) := by
  refine Met.ofW (cc := cX1_wouldChange) (maxL := 6) (ret := (some .int)) (by decide) rfl ?_
  intro p e s m args below meth c s₁ B9 hml hv
  obtain ⟨rfl, hH, hK⟩ := hv
  subst hH
  have hx := B9.exec
  have hb := B9.bytes
  have hr := B9.returns
  have hts := atoms_spec (ws := wsX1_wouldChange) B9.pre
  have hown : s.vm.findClass RX1 = some m.cls := findClass_of_methodNamed B9.named
  have hlocks := B9.notSynchronized
  have hin : ∀ w ∈ u_ws RX1 TX1 10, w ∈ wsX1_wouldChange := fun w h => List.mem_cons_of_mem _ (List.mem_append_right _ h)
  have hD0 := hD0.self (sz := s.heap.size)
  generalize hAe : va_A (wM cI cZ r th tc nc ac ch U Z B L F) s.heap.size = A at hD0 ⊢
  have hA : ∀ q : Nat, s.heap.size ≤ q → A q := fun q h => by rw [← hAe]; exact Or.inr h
  have hS : va_S A s.heap s.heap [] := va_S.rf
  have hD := hD0
  have hl := lv_entry ([.ref (r 0), .int (nI k), .int (bI z)]) (n := 6) (Nat.le_of_ble_eq_true rfl)
  rw [lg_entry_eq]
  generalize (lg_sl ([.ref (r 0), .int (nI k), .int (bI z)]) ++ List.replicate (6 - (lg_sl ([.ref (r 0), .int (nI k), .int (bI z)])).length) Slot.unset).toArray = ls at hl ⊢
  have hl : lv_has ls 6 [(0, .ref (r 0)), (1, .int (nI k)), (2, .int (bI z))] := hl
  have hpw := pw_in htc
  refine lv_aload_n hx hb dX1_wouldChange_0 rfl (lv_at hl 0 rfl) ?_
  refine lv_iconst (v := 0) hx hb dX1_wouldChange_1 (by decide) ?_
  refine va_put (D := D) (ci := 1) (v := .int 0) (ty := .int) (C := RX1) (T := TX1) (N := 10) hx hb hts hin tyX1 tyX1_ok nmX1 hown hK hP hD hS 0 rfl rfl 0 (by decide) (hts (.fieldLink RX1 26 "SmudgedStarModel" "thrown" "I") (List.mem_of_getElem? (i := 1) rfl)) (fun _ h9 => h9) rfl (by decide +kernel) rfl rfl (Nat.le_of_ble_eq_true rfl) dX1_wouldChange_2 (fun H locs hP hD hS => ?_)
  have hP : va_P D vwCl (wM cI cZ r 0 tc nc ac ch U Z B L F) H := hP
  have hD : va_D A (wM cI cZ r 0 tc nc ac ch U Z B L F) := va_D_re hD rfl
  refine lv_iload_n hx hb dX1_wouldChange_5 rfl (lv_at hl 1 rfl) ?_
  refine lv_iconst (v := 1) hx hb dX1_wouldChange_6 (by decide) ?_
  refine lv_aload_n hx hb dX1_wouldChange_7 rfl (lv_at hl 0 rfl) ?_
  refine pcV_i (As := []) (rest := [.int 1, .int (nI k)]) ⟨hx, hb, hml, hown, hts⟩ (g_M_all l hP htc hnc hac) (cwV 0 hts gX1_wouldChange_X1_all rfl rfl rfl hdX1_all ⟨Nat.le_of_ble_eq_true rfl, Nat.le_of_ble_eq_true rfl⟩) (va_recv hK hP (ci := 1) (q0 := 0) rfl rfl) hK rfl hl.1 (Nat.le_of_ble_eq_true rfl) rfl dX1_wouldChange_8 ⟨Nat.le_of_ble_eq_true rfl, Nat.le_of_ble_eq_true rfl⟩ ?_
  refine pcS_i (As := [.int (nI k), .int 1, .int (nI (pw tc - 1))]) (rest := []) ⟨hx, hb, hml, hown, hts⟩ (g_M_isIn l (nI k) 1 (nI (pw tc - 1))) (va_cwS 3 hts gX1_wouldChange_X1_isIn rfl rfl rfl hdX1_isIn ⟨Nat.le_of_ble_eq_true rfl, Nat.le_of_ble_eq_true rfl⟩) rfl hl.1 (Nat.le_of_ble_eq_true rfl) rfl dX1_wouldChange_11 ⟨Nat.le_of_ble_eq_true rfl, Nat.le_of_ble_eq_true rfl⟩ ?_
  refine lv_ifb_ne (tgt := 23) hx hb dX1_wouldChange_14 (by decide) (fun c14 => ?_) (fun c14 => absurd (c14.symm.trans (rg_bet (k := k) (a := 1) (n := pw tc - 1) (by omega) (by omega) (by omega))) (by decide))
  refine lv_aload_n hx hb dX1_wouldChange_23 rfl (lv_at hl 0 rfl) ?_
  refine va_get (D := D) (ci := 1) (v := .int (nI nc)) (C := RX1) (T := TX1) (N := 10) hx hb hts hin hown hK hP 0 rfl rfl 2 (by decide) (hts (.fieldLink RX1 37 "SmudgedStarModel" "nights" "I") (List.mem_of_getElem? (i := 2) rfl)) (fun _ h9 => h9) rfl dX1_wouldChange_24 ?_
  refine lv_bipush (v := 40) hx hb dX1_wouldChange_27 (by decide) ?_
  refine lv_icmp_ne (tgt := 38) hx hb dX1_wouldChange_29 (by decide) (fun c29 => ?_) (fun c29 => absurd ((nI_eq (b := 40) (by omega) (by decide)).mp c29) (by omega))
  refine lv_aload_n hx hb dX1_wouldChange_38 rfl (lv_at hl 0 rfl) ?_
  refine lv_iload_n hx hb dX1_wouldChange_39 rfl (lv_at hl 1 rfl) ?_
  refine lv_iload_n hx hb dX1_wouldChange_40 rfl (lv_at hl 2 rfl) ?_
  refine wcV_v (As := [.int (nI k), .int (bI z)]) (rest := []) ⟨hx, hb, hml, hown, hts⟩ (w_M_put l hP htc hnc hac (hD.weaken (fun _ _ _ _ => trivial)) (u := nI k) (z := z) h40) (cwV 2 hts gX1_wouldChange_X1_put rfl rfl rfl hdX1_put ⟨Nat.le_of_ble_eq_true rfl, Nat.le_of_ble_eq_true rfl⟩) (va_recv hK hP (ci := 1) (q0 := 0) rfl rfl) hK hS (va_free_all hD hS hA) rfl hl.1 (Nat.le_of_ble_eq_true rfl) rfl dX1_wouldChange_41 ⟨Nat.le_of_ble_eq_true rfl, Nat.le_of_ble_eq_true rfl⟩ (fun H locs hP hz1 hk1 hS => ?_)
  have hP : va_P D vwCl (wM cI cZ r 0 tc (nc + 1) ac ch (upd U nc (nI k)) (updB Z nc z) B L F) H := hP
  have hD : va_D A (wM cI cZ r 0 tc (nc + 1) ac ch (upd U nc (nI k)) (updB Z nc z) B L F) := va_D_re hD rfl
  refine lv_aload_n hx hb dX1_wouldChange_44 rfl (lv_at hl 0 rfl) ?_
  refine pcV_i (As := []) (rest := []) ⟨hx, hb, hml, hown, hts⟩ (g_M_fewest l hP htc (by omega) hac) (cwV 0 hts gX1_wouldChange_X1_fewest rfl rfl rfl hdX1_fewest ⟨Nat.le_of_ble_eq_true rfl, Nat.le_of_ble_eq_true rfl⟩) (va_recv hK hP (ci := 1) (q0 := 0) rfl rfl) hK rfl hl.1 (Nat.le_of_ble_eq_true rfl) rfl dX1_wouldChange_45 ⟨Nat.le_of_ble_eq_true rfl, Nat.le_of_ble_eq_true rfl⟩ ?_
  refine lv_iconst (v := (-1)) hx hb dX1_wouldChange_48 (by decide) ?_
  refine lv_bne (t0 := 56) hx hb dX1_wouldChange_49 dX1_wouldChange_52 dX1_wouldChange_53 dX1_wouldChange_56 (by decide) (by decide) ?_
  refine lv_istore_n (lv' := [(3, .int (bI (!(decide (smm (fun j => zz (upd U nc (nI k)) (updB Z nc z) (nc + 1) j) (pw tc) = (-1)))))), (0, .ref (r 0)), (1, .int (nI k)), (2, .int (bI z))]) hx hb dX1_wouldChange_57 rfl hl (by decide) rfl (fun ls hl => ?_)
  refine lv_aload_n hx hb dX1_wouldChange_58 rfl (lv_at hl 1 rfl) ?_
  refine lv_dup hx hb dX1_wouldChange_59 rfl ?_
  refine va_get (D := D) (ci := 1) (v := .int (nI (nc + 1))) (C := RX1) (T := TX1) (N := 10) hx hb hts hin hown hK hP 0 rfl rfl 2 (by decide) (hts (.fieldLink RX1 37 "SmudgedStarModel" "nights" "I") (List.mem_of_getElem? (i := 2) rfl)) (fun _ h9 => h9) rfl dX1_wouldChange_60 ?_
  refine lv_iconst (v := 1) hx hb dX1_wouldChange_63 (by decide) ?_
  refine lv_isub hx hb dX1_wouldChange_64 ?_
  refine lv_cst (y := nI nc) (nI_pred nc) ?_
  refine va_put (D := D) (ci := 1) (v := .int (nI nc)) (ty := .int) (C := RX1) (T := TX1) (N := 10) hx hb hts hin tyX1 tyX1_ok nmX1 hown hK hP hD hS 0 rfl rfl 2 (by decide) (hts (.fieldLink RX1 37 "SmudgedStarModel" "nights" "I") (List.mem_of_getElem? (i := 2) rfl)) (fun _ h9 => h9) rfl (by decide +kernel) rfl rfl (Nat.le_of_ble_eq_true rfl) dX1_wouldChange_65 (fun H locs hP hD hS => ?_)
  have hP : va_P D vwCl (wM cI cZ r 0 tc nc ac ch (upd U nc (nI k)) (updB Z nc z) B L F) H := hP
  have hD : va_D A (wM cI cZ r 0 tc nc ac ch (upd U nc (nI k)) (updB Z nc z) B L F) := va_D_re hD rfl
  refine lv_iconst (v := 0) hx hb dX1_wouldChange_68 (by decide) ?_
  refine lv_istore (lv' := [(4, .int 0), (3, .int (bI (!(decide (smm (fun j => zz (upd U nc (nI k)) (updB Z nc z) (nc + 1) j) (pw tc) = (-1)))))), (0, .ref (r 0)), (1, .int (nI k)), (2, .int (bI z))]) hx hb dX1_wouldChange_69 hl (by decide) rfl (fun ls hl => ?_)
  refine lv_iconst (v := 0) hx hb dX1_wouldChange_71 (by decide) ?_
  refine lv_istore (lv' := [(5, .int 0), (4, .int 0), (3, .int (bI (!(decide (smm (fun j => zz (upd U nc (nI k)) (updB Z nc z) (nc + 1) j) (pw tc) = (-1)))))), (0, .ref (r 0)), (1, .int (nI k)), (2, .int (bI z))]) hx hb dX1_wouldChange_72 hl (by decide) rfl (fun ls hl => ?_)
  refine w_loop (N := ac) (T := fun i => [(5, .int (nI i)), (4, .int (nI (ct (fun a => !(decide (smm (fun j => zz (upd U nc (nI k)) (updB Z nc z) (nc + 1) j) (pw tc) = -1)) && decide (L a = 0) && !(sx (B a) (nI k) z)) i))), (3, .int (bI (!(decide (smm (fun j => zz (upd U nc (nI k)) (updB Z nc z) (nc + 1) j) (pw tc) = (-1)))))), (0, .ref (r 0)), (1, .int (nI k)), (2, .int (bI z))]) (I := fun _ => True) 0 (Nat.zero_le _) trivial (lv_sub hl [0, 1, 2, 3, 4, 5] rfl) (fun i ls hi hI hl ih => ?_)
  have hl : lv_has ls 6 [(5, .int (nI i)), (4, .int (nI (ct (fun a => !(decide (smm (fun j => zz (upd U nc (nI k)) (updB Z nc z) (nc + 1) j) (pw tc) = -1)) && decide (L a = 0) && !(sx (B a) (nI k) z)) i))), (3, .int (bI (!(decide (smm (fun j => zz (upd U nc (nI k)) (updB Z nc z) (nc + 1) j) (pw tc) = (-1)))))), (0, .ref (r 0)), (1, .int (nI k)), (2, .int (bI z))] := hl
  refine lv_iload hx hb dX1_wouldChange_74 (lv_at hl 0 rfl) ?_
  refine lv_aload_n hx hb dX1_wouldChange_76 rfl (lv_at hl 3 rfl) ?_
  refine va_get (D := D) (ci := 1) (v := .int (nI ac)) (C := RX1) (T := TX1) (N := 10) hx hb hts hin hown hK hP 0 rfl rfl 5 (by decide) (hts (.fieldLink RX1 40 "SmudgedStarModel" "astronomers" "I") (List.mem_of_getElem? (i := 3) rfl)) (fun _ h9 => h9) rfl dX1_wouldChange_77 ?_
  refine lv_icmp_ge (tgt := 128) hx hb dX1_wouldChange_80 (by decide) (fun c80 => ?_) (fun c80 => ?_)
  · skip
    have hie : i = ac := gd_ge_t (by omega) hi c80
    rw [hie] at hl
    refine lv_iload hx hb dX1_wouldChange_128 (lv_at hl 1 rfl) ?_
    have hPe : va_P D vwCl (wM cI cZ r 0 tc nc ac ch (upd U nc (nI k)) (updB Z nc z) B L F) H := hP
    exact W.iret (v := nI (ct (fun a => !(decide (smm (fun j => zz (upd U nc (nI k)) (updB Z nc z) (nc + 1) j) (pw tc) = -1)) && decide (L a = 0) && !(sx (B a) (nI k) z)) ac)) hx hb hr (fun t9 ht9 hW9 => ⟨⟨nI (ct (fun a => !(decide (smm (fun j => zz (upd U nc (nI k)) (updB Z nc z) (nc + 1) j) (pw tc) = -1)) && decide (L a = 0) && !(sx (B a) (nI k) z)) ac), (), rfl, rfl, by show va_P D vwCl _ t9.heap; rw [ht9]; exact hPe⟩, hS.F ht9⟩) hS.2.2 dX1_wouldChange_130
  · skip
    have hlt : i < ac := gd_ge_f hi c80
    refine lv_iload hx hb dX1_wouldChange_83 (lv_at hl 1 rfl) ?_
    refine lv_iload_n hx hb dX1_wouldChange_85 rfl (lv_at hl 2 rfl) ?_
    refine lv_ifb_eq (tgt := 118) hx hb dX1_wouldChange_86 (by decide) (fun c86 => ?_) (fun c86 => ?_)
    · skip
      refine lv_iconst (v := 0) hx hb dX1_wouldChange_118 (by decide) ?_
      refine lv_iadd hx hb dX1_wouldChange_119 ?_
      refine lv_istore (lv' := [(4, .int ((nI (ct (fun a => !(decide (smm (fun j => zz (upd U nc (nI k)) (updB Z nc z) (nc + 1) j) (pw tc) = -1)) && decide (L a = 0) && !(sx (B a) (nI k) z)) i)) + 0)), (5, .int (nI i)), (3, .int (bI (!(decide (smm (fun j => zz (upd U nc (nI k)) (updB Z nc z) (nc + 1) j) (pw tc) = (-1)))))), (0, .ref (r 0)), (1, .int (nI k)), (2, .int (bI z))]) hx hb dX1_wouldChange_120 hl (by decide) rfl (fun ls hl => ?_)
      refine lv_iinc (v := nI (i + 1)) (lv' := [(5, .int (nI (i + 1))), (4, .int ((nI (ct (fun a => !(decide (smm (fun j => zz (upd U nc (nI k)) (updB Z nc z) (nc + 1) j) (pw tc) = -1)) && decide (L a = 0) && !(sx (B a) (nI k) z)) i)) + 0)), (3, .int (bI (!(decide (smm (fun j => zz (upd U nc (nI k)) (updB Z nc z) (nc + 1) j) (pw tc) = (-1)))))), (0, .ref (r 0)), (1, .int (nI k)), (2, .int (bI z))]) hx hb dX1_wouldChange_122 hl (k := 1) rfl (nI_1 _) (by decide) rfl (fun ls hl => ?_)
      refine lv_goto (tgt := 74) hx hb dX1_wouldChange_125 (by decide) ?_
      have e4 : ((nI (ct (fun a => !(decide (smm (fun j => zz (upd U nc (nI k)) (updB Z nc z) (nc + 1) j) (pw tc) = -1)) && decide (L a = 0) && !(sx (B a) (nI k) z)) i)) + 0) = nI (ct (fun a => !(decide (smm (fun j => zz (upd U nc (nI k)) (updB Z nc z) (nc + 1) j) (pw tc) = -1)) && decide (L a = 0) && !(sx (B a) (nI k) z)) (i + 1)) := ct_f0 (by simp only [c86, Bool.false_and])
      have hl := lv_sub (l' := [(5, .int (nI (i + 1))), (4, .int ((nI (ct (fun a => !(decide (smm (fun j => zz (upd U nc (nI k)) (updB Z nc z) (nc + 1) j) (pw tc) = -1)) && decide (L a = 0) && !(sx (B a) (nI k) z)) i)) + 0)), (3, .int (bI (!(decide (smm (fun j => zz (upd U nc (nI k)) (updB Z nc z) (nc + 1) j) (pw tc) = (-1)))))), (0, .ref (r 0)), (1, .int (nI k)), (2, .int (bI z))]) hl [0, 1, 2, 3, 4, 5] rfl
      rw [e4] at hl
      exact ih ls hlt trivial hl
    · skip
      refine lv_aload_n hx hb dX1_wouldChange_89 rfl (lv_at hl 3 rfl) ?_
      refine va_get (D := D) (ci := 1) (v := .ref (r 4)) (C := RX1) (T := TX1) (N := 10) hx hb hts hin hown hK hP 0 rfl rfl 7 (by decide) (hts (.fieldLink RX1 20 "SmudgedStarModel" "left" "[I") (List.mem_of_getElem? (i := 4) rfl)) (fun _ h9 => h9) rfl dX1_wouldChange_90 ?_
      refine lv_iload hx hb dX1_wouldChange_93 (lv_at hl 0 rfl) ?_
      refine ia_ld hx hb hK hP 4 0 rfl rfl (j := i) (by omega) (by decide) dX1_wouldChange_95 ?_
      refine lv_if_ne (tgt := 118) hx hb dX1_wouldChange_96 (by decide) (fun c96 => ?_) (fun c96 => ?_)
      · skip
        refine lv_iconst (v := 0) hx hb dX1_wouldChange_118 (by decide) ?_
        refine lv_iadd hx hb dX1_wouldChange_119 ?_
        refine lv_istore (lv' := [(4, .int ((nI (ct (fun a => !(decide (smm (fun j => zz (upd U nc (nI k)) (updB Z nc z) (nc + 1) j) (pw tc) = -1)) && decide (L a = 0) && !(sx (B a) (nI k) z)) i)) + 0)), (5, .int (nI i)), (3, .int (bI (!(decide (smm (fun j => zz (upd U nc (nI k)) (updB Z nc z) (nc + 1) j) (pw tc) = (-1)))))), (0, .ref (r 0)), (1, .int (nI k)), (2, .int (bI z))]) hx hb dX1_wouldChange_120 hl (by decide) rfl (fun ls hl => ?_)
        refine lv_iinc (v := nI (i + 1)) (lv' := [(5, .int (nI (i + 1))), (4, .int ((nI (ct (fun a => !(decide (smm (fun j => zz (upd U nc (nI k)) (updB Z nc z) (nc + 1) j) (pw tc) = -1)) && decide (L a = 0) && !(sx (B a) (nI k) z)) i)) + 0)), (3, .int (bI (!(decide (smm (fun j => zz (upd U nc (nI k)) (updB Z nc z) (nc + 1) j) (pw tc) = (-1)))))), (0, .ref (r 0)), (1, .int (nI k)), (2, .int (bI z))]) hx hb dX1_wouldChange_122 hl (k := 1) rfl (nI_1 _) (by decide) rfl (fun ls hl => ?_)
        refine lv_goto (tgt := 74) hx hb dX1_wouldChange_125 (by decide) ?_
        have e4 : ((nI (ct (fun a => !(decide (smm (fun j => zz (upd U nc (nI k)) (updB Z nc z) (nc + 1) j) (pw tc) = -1)) && decide (L a = 0) && !(sx (B a) (nI k) z)) i)) + 0) = nI (ct (fun a => !(decide (smm (fun j => zz (upd U nc (nI k)) (updB Z nc z) (nc + 1) j) (pw tc) = -1)) && decide (L a = 0) && !(sx (B a) (nI k) z)) (i + 1)) := ct_f0 (by simp only [decide_eq_false c96, Bool.and_false, Bool.false_and])
        have hl := lv_sub (l' := [(5, .int (nI (i + 1))), (4, .int ((nI (ct (fun a => !(decide (smm (fun j => zz (upd U nc (nI k)) (updB Z nc z) (nc + 1) j) (pw tc) = -1)) && decide (L a = 0) && !(sx (B a) (nI k) z)) i)) + 0)), (3, .int (bI (!(decide (smm (fun j => zz (upd U nc (nI k)) (updB Z nc z) (nc + 1) j) (pw tc) = (-1)))))), (0, .ref (r 0)), (1, .int (nI k)), (2, .int (bI z))]) hl [0, 1, 2, 3, 4, 5] rfl
        rw [e4] at hl
        exact ih ls hlt trivial hl
      · skip
        refine lv_aload_n hx hb dX1_wouldChange_99 rfl (lv_at hl 3 rfl) ?_
        refine va_get (D := D) (ci := 1) (v := .ref (r 5)) (C := RX1) (T := TX1) (N := 10) hx hb hts hin hown hK hP 0 rfl rfl 8 (by decide) (hts (.fieldLink RX1 23 "SmudgedStarModel" "blames" "[I") (List.mem_of_getElem? (i := 5) rfl)) (fun _ h9 => h9) rfl dX1_wouldChange_100 ?_
        refine lv_iload hx hb dX1_wouldChange_103 (lv_at hl 0 rfl) ?_
        refine ia_ld hx hb hK hP 5 0 rfl rfl (j := i) (by omega) (by decide) dX1_wouldChange_105 ?_
        refine lv_iload_n hx hb dX1_wouldChange_106 rfl (lv_at hl 4 rfl) ?_
        refine lv_iload_n hx hb dX1_wouldChange_107 rfl (lv_at hl 5 rfl) ?_
        refine pcS_i (As := [.int (B i), .int (nI k), .int (bI z)]) (rest := [.int (nI (ct (fun a => !(decide (smm (fun j => zz (upd U nc (nI k)) (updB Z nc z) (nc + 1) j) (pw tc) = -1)) && decide (L a = 0) && !(sx (B a) (nI k) z)) i))]) ⟨hx, hb, hml, hown, hts⟩ (g_M_explains l (B i) (nI k) z) (va_cwS 3 hts gX1_wouldChange_X1_explains rfl rfl rfl hdX1_explains ⟨Nat.le_of_ble_eq_true rfl, Nat.le_of_ble_eq_true rfl⟩) rfl hl.1 (Nat.le_of_ble_eq_true rfl) rfl dX1_wouldChange_108 ⟨Nat.le_of_ble_eq_true rfl, Nat.le_of_ble_eq_true rfl⟩ ?_
        refine lv_ifb_ne (tgt := 118) hx hb dX1_wouldChange_111 (by decide) (fun c111 => ?_) (fun c111 => ?_)
        · skip
          refine lv_iconst (v := 0) hx hb dX1_wouldChange_118 (by decide) ?_
          refine lv_iadd hx hb dX1_wouldChange_119 ?_
          refine lv_istore (lv' := [(4, .int ((nI (ct (fun a => !(decide (smm (fun j => zz (upd U nc (nI k)) (updB Z nc z) (nc + 1) j) (pw tc) = -1)) && decide (L a = 0) && !(sx (B a) (nI k) z)) i)) + 0)), (5, .int (nI i)), (3, .int (bI (!(decide (smm (fun j => zz (upd U nc (nI k)) (updB Z nc z) (nc + 1) j) (pw tc) = (-1)))))), (0, .ref (r 0)), (1, .int (nI k)), (2, .int (bI z))]) hx hb dX1_wouldChange_120 hl (by decide) rfl (fun ls hl => ?_)
          refine lv_iinc (v := nI (i + 1)) (lv' := [(5, .int (nI (i + 1))), (4, .int ((nI (ct (fun a => !(decide (smm (fun j => zz (upd U nc (nI k)) (updB Z nc z) (nc + 1) j) (pw tc) = -1)) && decide (L a = 0) && !(sx (B a) (nI k) z)) i)) + 0)), (3, .int (bI (!(decide (smm (fun j => zz (upd U nc (nI k)) (updB Z nc z) (nc + 1) j) (pw tc) = (-1)))))), (0, .ref (r 0)), (1, .int (nI k)), (2, .int (bI z))]) hx hb dX1_wouldChange_122 hl (k := 1) rfl (nI_1 _) (by decide) rfl (fun ls hl => ?_)
          refine lv_goto (tgt := 74) hx hb dX1_wouldChange_125 (by decide) ?_
          have e4 : ((nI (ct (fun a => !(decide (smm (fun j => zz (upd U nc (nI k)) (updB Z nc z) (nc + 1) j) (pw tc) = -1)) && decide (L a = 0) && !(sx (B a) (nI k) z)) i)) + 0) = nI (ct (fun a => !(decide (smm (fun j => zz (upd U nc (nI k)) (updB Z nc z) (nc + 1) j) (pw tc) = -1)) && decide (L a = 0) && !(sx (B a) (nI k) z)) (i + 1)) := ct_f0 (by simp only [c111, Bool.not_true, Bool.and_false])
          have hl := lv_sub (l' := [(5, .int (nI (i + 1))), (4, .int ((nI (ct (fun a => !(decide (smm (fun j => zz (upd U nc (nI k)) (updB Z nc z) (nc + 1) j) (pw tc) = -1)) && decide (L a = 0) && !(sx (B a) (nI k) z)) i)) + 0)), (3, .int (bI (!(decide (smm (fun j => zz (upd U nc (nI k)) (updB Z nc z) (nc + 1) j) (pw tc) = (-1)))))), (0, .ref (r 0)), (1, .int (nI k)), (2, .int (bI z))]) hl [0, 1, 2, 3, 4, 5] rfl
          rw [e4] at hl
          exact ih ls hlt trivial hl
        · skip
          refine lv_iconst (v := 1) hx hb dX1_wouldChange_114 (by decide) ?_
          refine lv_goto (tgt := 119) hx hb dX1_wouldChange_115 (by decide) ?_
          refine lv_iadd hx hb dX1_wouldChange_119 ?_
          refine lv_istore (lv' := [(4, .int ((nI (ct (fun a => !(decide (smm (fun j => zz (upd U nc (nI k)) (updB Z nc z) (nc + 1) j) (pw tc) = -1)) && decide (L a = 0) && !(sx (B a) (nI k) z)) i)) + 1)), (5, .int (nI i)), (3, .int (bI (!(decide (smm (fun j => zz (upd U nc (nI k)) (updB Z nc z) (nc + 1) j) (pw tc) = (-1)))))), (0, .ref (r 0)), (1, .int (nI k)), (2, .int (bI z))]) hx hb dX1_wouldChange_120 hl (by decide) rfl (fun ls hl => ?_)
          refine lv_iinc (v := nI (i + 1)) (lv' := [(5, .int (nI (i + 1))), (4, .int ((nI (ct (fun a => !(decide (smm (fun j => zz (upd U nc (nI k)) (updB Z nc z) (nc + 1) j) (pw tc) = -1)) && decide (L a = 0) && !(sx (B a) (nI k) z)) i)) + 1)), (3, .int (bI (!(decide (smm (fun j => zz (upd U nc (nI k)) (updB Z nc z) (nc + 1) j) (pw tc) = (-1)))))), (0, .ref (r 0)), (1, .int (nI k)), (2, .int (bI z))]) hx hb dX1_wouldChange_122 hl (k := 1) rfl (nI_1 _) (by decide) rfl (fun ls hl => ?_)
          refine lv_goto (tgt := 74) hx hb dX1_wouldChange_125 (by decide) ?_
          have e4 : ((nI (ct (fun a => !(decide (smm (fun j => zz (upd U nc (nI k)) (updB Z nc z) (nc + 1) j) (pw tc) = -1)) && decide (L a = 0) && !(sx (B a) (nI k) z)) i)) + 1) = nI (ct (fun a => !(decide (smm (fun j => zz (upd U nc (nI k)) (updB Z nc z) (nc + 1) j) (pw tc) = -1)) && decide (L a = 0) && !(sx (B a) (nI k) z)) (i + 1)) := ct_t (by simp only [c86, decide_eq_true c96, c111, Bool.not_false, Bool.and_true])
          have hl := lv_sub (l' := [(5, .int (nI (i + 1))), (4, .int ((nI (ct (fun a => !(decide (smm (fun j => zz (upd U nc (nI k)) (updB Z nc z) (nc + 1) j) (pw tc) = -1)) && decide (L a = 0) && !(sx (B a) (nI k) z)) i)) + 1)), (3, .int (bI (!(decide (smm (fun j => zz (upd U nc (nI k)) (updB Z nc z) (nc + 1) j) (pw tc) = (-1)))))), (0, .ref (r 0)), (1, .int (nI k)), (2, .int (bI z))]) hl [0, 1, 2, 3, 4, 5] rfl
          rw [e4] at hl
          exact ih ls hlt trivial hl
set_option maxHeartbeats 4000000 in
set_option maxRecDepth 100000 in
theorem wb_M_wouldChange (l : Launch) {D : va_G} {cI cZ : ClassId} {r : Nat → Nat} {th : Int32} {tc nc ac : Nat} {ch : Int32} {U : Nat → Int32} {Z : Nat → Bool} {B L F : Nat → Int32} {H : Heap} (hP : va_P D vwCl (wM cI cZ r th tc nc ac ch U Z B L F) H) (htc : tc ≤ 8) (hnc : nc ≤ 40) (hac : ac ≤ 8) (hD0 : va_D (fun _ => True) (wM cI cZ r th tc nc ac ch U Z B L F)) {v : Int32} {z : Bool} (hv : v < 1 ∨ nI (pw tc - 1) < v) : Met l yX1_wouldChange wsX1_wouldChange ({ frames := 3, cells := 0, slots := 0, locals := 67 }) (va_Pc [.ref (r 0), .int v, .int (bI z)] (rd D vwCl (tyA cI cZ) H)) (va_Qi (fun r (_ : Unit) => r = 0) (fun _ t8 => va_P D vwCl (wM cI cZ r 1 tc nc ac ch U Z B L F) t8.heap) (va_A (wM cI cZ r th tc nc ac ch U Z B L F) H.size)) 0 0 (va_A (wM cI cZ r th tc nc ac ch U Z B L F) H.size) := by
  refine Met.ofW (cc := cX1_wouldChange) (maxL := 6) (ret := (some .int)) (by decide) rfl ?_
  intro p e s m args below meth c s₁ B9 hml hv
  obtain ⟨rfl, hH, hK⟩ := hv
  subst hH
  have hx := B9.exec
  have hb := B9.bytes
  have hr := B9.returns
  have hts := atoms_spec (ws := wsX1_wouldChange) B9.pre
  have hown : s.vm.findClass RX1 = some m.cls := findClass_of_methodNamed B9.named
  have hlocks := B9.notSynchronized
  have hin : ∀ w ∈ u_ws RX1 TX1 10, w ∈ wsX1_wouldChange := fun w h => List.mem_cons_of_mem _ (List.mem_append_right _ h)
  have hD0 := hD0.self (sz := s.heap.size)
  generalize hAe : va_A (wM cI cZ r th tc nc ac ch U Z B L F) s.heap.size = A at hD0 ⊢
  have hA : ∀ q : Nat, s.heap.size ≤ q → A q := fun q h => by rw [← hAe]; exact Or.inr h
  have hS : va_S A s.heap s.heap [] := va_S.rf
  have hD := hD0
  have hl := lv_entry ([.ref (r 0), .int v, .int (bI z)]) (n := 6) (Nat.le_of_ble_eq_true rfl)
  rw [lg_entry_eq]
  generalize (lg_sl ([.ref (r 0), .int v, .int (bI z)]) ++ List.replicate (6 - (lg_sl ([.ref (r 0), .int v, .int (bI z)])).length) Slot.unset).toArray = ls at hl ⊢
  have hl : lv_has ls 6 [(0, .ref (r 0)), (1, .int v), (2, .int (bI z))] := hl
  refine lv_aload_n hx hb dX1_wouldChange_0 rfl (lv_at hl 0 rfl) ?_
  refine lv_iconst (v := 0) hx hb dX1_wouldChange_1 (by decide) ?_
  refine va_put (D := D) (ci := 1) (v := .int 0) (ty := .int) (C := RX1) (T := TX1) (N := 10) hx hb hts hin tyX1 tyX1_ok nmX1 hown hK hP hD hS 0 rfl rfl 0 (by decide) (hts (.fieldLink RX1 26 "SmudgedStarModel" "thrown" "I") (List.mem_of_getElem? (i := 1) rfl)) (fun _ h9 => h9) rfl (by decide +kernel) rfl rfl (Nat.le_of_ble_eq_true rfl) dX1_wouldChange_2 (fun H locs hP hD hS => ?_)
  have hP : va_P D vwCl (wM cI cZ r 0 tc nc ac ch U Z B L F) H := hP
  have hD : va_D A (wM cI cZ r 0 tc nc ac ch U Z B L F) := va_D_re hD rfl
  refine lv_iload_n hx hb dX1_wouldChange_5 rfl (lv_at hl 1 rfl) ?_
  refine lv_iconst (v := 1) hx hb dX1_wouldChange_6 (by decide) ?_
  refine lv_aload_n hx hb dX1_wouldChange_7 rfl (lv_at hl 0 rfl) ?_
  refine pcV_i (As := []) (rest := [.int 1, .int v]) ⟨hx, hb, hml, hown, hts⟩ (g_M_all l hP htc hnc hac) (cwV 0 hts gX1_wouldChange_X1_all rfl rfl rfl hdX1_all ⟨Nat.le_of_ble_eq_true rfl, Nat.le_of_ble_eq_true rfl⟩) (va_recv hK hP (ci := 1) (q0 := 0) rfl rfl) hK rfl hl.1 (Nat.le_of_ble_eq_true rfl) rfl dX1_wouldChange_8 ⟨Nat.le_of_ble_eq_true rfl, Nat.le_of_ble_eq_true rfl⟩ ?_
  refine pcS_i (As := [.int v, .int 1, .int (nI (pw tc - 1))]) (rest := []) ⟨hx, hb, hml, hown, hts⟩ (g_M_isIn l v 1 (nI (pw tc - 1))) (va_cwS 3 hts gX1_wouldChange_X1_isIn rfl rfl rfl hdX1_isIn ⟨Nat.le_of_ble_eq_true rfl, Nat.le_of_ble_eq_true rfl⟩) rfl hl.1 (Nat.le_of_ble_eq_true rfl) rfl dX1_wouldChange_11 ⟨Nat.le_of_ble_eq_true rfl, Nat.le_of_ble_eq_true rfl⟩ ?_
  refine lv_ifb_ne (tgt := 23) hx hb dX1_wouldChange_14 (by decide) (fun c14 => absurd (c14.symm.trans (rg_off hv)) (by decide)) (fun c14 => ?_)
  refine lv_aload_n hx hb dX1_wouldChange_17 rfl (lv_at hl 0 rfl) ?_
  refine lv_iconst (v := 1) hx hb dX1_wouldChange_18 (by decide) ?_
  refine wcV_i (As := [.int 1]) (rest := []) ⟨hx, hb, hml, hown, hts⟩ (w_M_no l hP htc hnc hac (hD.weaken (fun _ _ _ _ => trivial)) (v := 1)) (cwV 1 hts gX1_wouldChange_X1_no rfl rfl rfl hdX1_no ⟨Nat.le_of_ble_eq_true rfl, Nat.le_of_ble_eq_true rfl⟩) (va_recv hK hP (ci := 1) (q0 := 0) rfl rfl) hK hS (va_free_all hD hS hA) rfl hl.1 (Nat.le_of_ble_eq_true rfl) rfl dX1_wouldChange_19 ⟨Nat.le_of_ble_eq_true rfl, Nat.le_of_ble_eq_true rfl⟩ (fun H locs hP hz1 hk1 hS => ?_)
  have hP : va_P D vwCl (wM cI cZ r 1 tc nc ac ch U Z B L F) H := hP
  have hD : va_D A (wM cI cZ r 1 tc nc ac ch U Z B L F) := va_D_re hD rfl
  have hPe : va_P D vwCl (wM cI cZ r 1 tc nc ac ch U Z B L F) H := hP
  exact W.iret (v := 0) hx hb hr (fun t9 ht9 hW9 => ⟨⟨0, (), rfl, rfl, by show va_P D vwCl _ t9.heap; rw [ht9]; exact hPe⟩, hS.F ht9⟩) hS.2.2 dX1_wouldChange_22
set_option maxHeartbeats 4000000 in
set_option maxRecDepth 100000 in
theorem wb2_M_wouldChange (l : Launch) {D : va_G} {cI cZ : ClassId} {r : Nat → Nat} {th : Int32} {tc nc ac : Nat} {ch : Int32} {U : Nat → Int32} {Z : Nat → Bool} {B L F : Nat → Int32} {H : Heap} (hP : va_P D vwCl (wM cI cZ r th tc nc ac ch U Z B L F) H) (htc : tc ≤ 8) (hnc : nc ≤ 40) (hac : ac ≤ 8) (hD0 : va_D (fun _ => True) (wM cI cZ r th tc nc ac ch U Z B L F)) {k : Nat} {z : Bool} (hk0 : 1 ≤ k) (hk : k < pw tc) (h40 : nc = 40) : Met l yX1_wouldChange wsX1_wouldChange ({ frames := 3, cells := 0, slots := 0, locals := 67 }) (va_Pc [.ref (r 0), .int (nI k), .int (bI z)] (rd D vwCl (tyA cI cZ) H)) (va_Qi (fun r (_ : Unit) => r = 0) (fun _ t8 => va_P D vwCl (wM cI cZ r 2 tc nc ac ch U Z B L F) t8.heap) (va_A (wM cI cZ r th tc nc ac ch U Z B L F) H.size)) 0 0 (va_A (wM cI cZ r th tc nc ac ch U Z B L F) H.size) := by
  refine Met.ofW (cc := cX1_wouldChange) (maxL := 6) (ret := (some .int)) (by decide) rfl ?_
  intro p e s m args below meth c s₁ B9 hml hv
  obtain ⟨rfl, hH, hK⟩ := hv
  subst hH
  have hx := B9.exec
  have hb := B9.bytes
  have hr := B9.returns
  have hts := atoms_spec (ws := wsX1_wouldChange) B9.pre
  have hown : s.vm.findClass RX1 = some m.cls := findClass_of_methodNamed B9.named
  have hlocks := B9.notSynchronized
  have hin : ∀ w ∈ u_ws RX1 TX1 10, w ∈ wsX1_wouldChange := fun w h => List.mem_cons_of_mem _ (List.mem_append_right _ h)
  have hD0 := hD0.self (sz := s.heap.size)
  generalize hAe : va_A (wM cI cZ r th tc nc ac ch U Z B L F) s.heap.size = A at hD0 ⊢
  have hA : ∀ q : Nat, s.heap.size ≤ q → A q := fun q h => by rw [← hAe]; exact Or.inr h
  have hS : va_S A s.heap s.heap [] := va_S.rf
  have hD := hD0
  have hl := lv_entry ([.ref (r 0), .int (nI k), .int (bI z)]) (n := 6) (Nat.le_of_ble_eq_true rfl)
  rw [lg_entry_eq]
  generalize (lg_sl ([.ref (r 0), .int (nI k), .int (bI z)]) ++ List.replicate (6 - (lg_sl ([.ref (r 0), .int (nI k), .int (bI z)])).length) Slot.unset).toArray = ls at hl ⊢
  have hl : lv_has ls 6 [(0, .ref (r 0)), (1, .int (nI k)), (2, .int (bI z))] := hl
  have hpw := pw_in htc
  refine lv_aload_n hx hb dX1_wouldChange_0 rfl (lv_at hl 0 rfl) ?_
  refine lv_iconst (v := 0) hx hb dX1_wouldChange_1 (by decide) ?_
  refine va_put (D := D) (ci := 1) (v := .int 0) (ty := .int) (C := RX1) (T := TX1) (N := 10) hx hb hts hin tyX1 tyX1_ok nmX1 hown hK hP hD hS 0 rfl rfl 0 (by decide) (hts (.fieldLink RX1 26 "SmudgedStarModel" "thrown" "I") (List.mem_of_getElem? (i := 1) rfl)) (fun _ h9 => h9) rfl (by decide +kernel) rfl rfl (Nat.le_of_ble_eq_true rfl) dX1_wouldChange_2 (fun H locs hP hD hS => ?_)
  have hP : va_P D vwCl (wM cI cZ r 0 tc nc ac ch U Z B L F) H := hP
  have hD : va_D A (wM cI cZ r 0 tc nc ac ch U Z B L F) := va_D_re hD rfl
  refine lv_iload_n hx hb dX1_wouldChange_5 rfl (lv_at hl 1 rfl) ?_
  refine lv_iconst (v := 1) hx hb dX1_wouldChange_6 (by decide) ?_
  refine lv_aload_n hx hb dX1_wouldChange_7 rfl (lv_at hl 0 rfl) ?_
  refine pcV_i (As := []) (rest := [.int 1, .int (nI k)]) ⟨hx, hb, hml, hown, hts⟩ (g_M_all l hP htc hnc hac) (cwV 0 hts gX1_wouldChange_X1_all rfl rfl rfl hdX1_all ⟨Nat.le_of_ble_eq_true rfl, Nat.le_of_ble_eq_true rfl⟩) (va_recv hK hP (ci := 1) (q0 := 0) rfl rfl) hK rfl hl.1 (Nat.le_of_ble_eq_true rfl) rfl dX1_wouldChange_8 ⟨Nat.le_of_ble_eq_true rfl, Nat.le_of_ble_eq_true rfl⟩ ?_
  refine pcS_i (As := [.int (nI k), .int 1, .int (nI (pw tc - 1))]) (rest := []) ⟨hx, hb, hml, hown, hts⟩ (g_M_isIn l (nI k) 1 (nI (pw tc - 1))) (va_cwS 3 hts gX1_wouldChange_X1_isIn rfl rfl rfl hdX1_isIn ⟨Nat.le_of_ble_eq_true rfl, Nat.le_of_ble_eq_true rfl⟩) rfl hl.1 (Nat.le_of_ble_eq_true rfl) rfl dX1_wouldChange_11 ⟨Nat.le_of_ble_eq_true rfl, Nat.le_of_ble_eq_true rfl⟩ ?_
  refine lv_ifb_ne (tgt := 23) hx hb dX1_wouldChange_14 (by decide) (fun c14 => ?_) (fun c14 => absurd (c14.symm.trans (rg_bet (k := k) (a := 1) (n := pw tc - 1) (by omega) (by omega) (by omega))) (by decide))
  refine lv_aload_n hx hb dX1_wouldChange_23 rfl (lv_at hl 0 rfl) ?_
  refine va_get (D := D) (ci := 1) (v := .int (nI nc)) (C := RX1) (T := TX1) (N := 10) hx hb hts hin hown hK hP 0 rfl rfl 2 (by decide) (hts (.fieldLink RX1 37 "SmudgedStarModel" "nights" "I") (List.mem_of_getElem? (i := 2) rfl)) (fun _ h9 => h9) rfl dX1_wouldChange_24 ?_
  refine lv_bipush (v := 40) hx hb dX1_wouldChange_27 (by decide) ?_
  refine lv_icmp_ne (tgt := 38) hx hb dX1_wouldChange_29 (by decide) (fun c29 => absurd (by rw [h40]; rfl) c29) (fun c29 => ?_)
  refine lv_aload_n hx hb dX1_wouldChange_32 rfl (lv_at hl 0 rfl) ?_
  refine lv_iconst (v := 2) hx hb dX1_wouldChange_33 (by decide) ?_
  refine wcV_i (As := [.int 2]) (rest := []) ⟨hx, hb, hml, hown, hts⟩ (w_M_no l hP htc hnc hac (hD.weaken (fun _ _ _ _ => trivial)) (v := 2)) (cwV 1 hts gX1_wouldChange_X1_no rfl rfl rfl hdX1_no ⟨Nat.le_of_ble_eq_true rfl, Nat.le_of_ble_eq_true rfl⟩) (va_recv hK hP (ci := 1) (q0 := 0) rfl rfl) hK hS (va_free_all hD hS hA) rfl hl.1 (Nat.le_of_ble_eq_true rfl) rfl dX1_wouldChange_34 ⟨Nat.le_of_ble_eq_true rfl, Nat.le_of_ble_eq_true rfl⟩ (fun H locs hP hz1 hk1 hS => ?_)
  have hP : va_P D vwCl (wM cI cZ r 2 tc nc ac ch U Z B L F) H := hP
  have hD : va_D A (wM cI cZ r 2 tc nc ac ch U Z B L F) := va_D_re hD rfl
  have hPe : va_P D vwCl (wM cI cZ r 2 tc nc ac ch U Z B L F) H := hP
  exact W.iret (v := 0) hx hb hr (fun t9 ht9 hW9 => ⟨⟨0, (), rfl, rfl, by show va_P D vwCl _ t9.heap; rw [ht9]; exact hPe⟩, hS.F ht9⟩) hS.2.2 dX1_wouldChange_37
set_option maxHeartbeats 4000000 in
set_option maxRecDepth 100000 in
theorem w_M_meanBlame (l : Launch) {D : va_G} {cI cZ : ClassId} {r : Nat → Nat} {th : Int32} {tc nc ac : Nat} {ch : Int32} {U : Nat → Int32} {Z : Nat → Bool} {B L F : Nat → Int32} {H : Heap} (hP : va_P D vwCl (wM cI cZ r th tc nc ac ch U Z B L F) H) (htc : tc ≤ 8) (hnc : nc ≤ 40) (hac : ac ≤ 8) (hD0 : va_D (fun _ => True) (wM cI cZ r th tc nc ac ch U Z B L F)) : Met l yX1_meanBlame wsX1_meanBlame ({ frames := 1, cells := 0, slots := 0, locals := 20 }) (va_Pc [.ref (r 0)] (rd D vwCl (tyA cI cZ) H)) (va_Qd (fun r (_ : Unit) => r = (if nI ac = 0 then FP.dconst0 else FP.ddiv (FP.i2d (bsum B ac)) (FP.i2d (nI ac)))) (fun _ t8 => va_P D vwCl (wM cI cZ r 0 tc nc ac ch U Z B L F) t8.heap) (va_A (wM cI cZ r th tc nc ac ch U Z B L F) H.size)) 0 0 (va_A (wM cI cZ r th tc nc ac ch U Z B L F) H.size) := by
  refine Met.ofW (cc := cX1_meanBlame) (maxL := 3) (ret := (some .double)) (by decide) rfl ?_
  intro p e s m args below meth c s₁ B9 hml hv
  obtain ⟨rfl, hH, hK⟩ := hv
  subst hH
  have hx := B9.exec
  have hb := B9.bytes
  have hr := B9.returns
  have hts := atoms_spec (ws := wsX1_meanBlame) B9.pre
  have hown : s.vm.findClass RX1 = some m.cls := findClass_of_methodNamed B9.named
  have hlocks := B9.notSynchronized
  have hin : ∀ w ∈ u_ws RX1 TX1 10, w ∈ wsX1_meanBlame := fun w h => List.mem_cons_of_mem _ (List.mem_append_right _ h)
  have hD0 := hD0.self (sz := s.heap.size)
  generalize hAe : va_A (wM cI cZ r th tc nc ac ch U Z B L F) s.heap.size = A at hD0 ⊢
  have hA : ∀ q : Nat, s.heap.size ≤ q → A q := fun q h => by rw [← hAe]; exact Or.inr h
  have hS : va_S A s.heap s.heap [] := va_S.rf
  have hD := hD0
  have hl := lv_entry ([.ref (r 0)]) (n := 3) (Nat.le_of_ble_eq_true rfl)
  rw [lg_entry_eq]
  generalize (lg_sl ([.ref (r 0)]) ++ List.replicate (3 - (lg_sl ([.ref (r 0)])).length) Slot.unset).toArray = ls at hl ⊢
  have hl : lv_has ls 3 [(0, .ref (r 0))] := hl
  refine lv_aload_n hx hb dX1_meanBlame_0 rfl (lv_at hl 0 rfl) ?_
  refine lv_iconst (v := 0) hx hb dX1_meanBlame_1 (by decide) ?_
  refine va_put (D := D) (ci := 1) (v := .int 0) (ty := .int) (C := RX1) (T := TX1) (N := 10) hx hb hts hin tyX1 tyX1_ok nmX1 hown hK hP hD hS 0 rfl rfl 0 (by decide) (hts (.fieldLink RX1 26 "SmudgedStarModel" "thrown" "I") (List.mem_of_getElem? (i := 1) rfl)) (fun _ h9 => h9) rfl (by decide +kernel) rfl rfl (Nat.le_of_ble_eq_true rfl) dX1_meanBlame_2 (fun H locs hP hD hS => ?_)
  have hP : va_P D vwCl (wM cI cZ r 0 tc nc ac ch U Z B L F) H := hP
  have hD : va_D A (wM cI cZ r 0 tc nc ac ch U Z B L F) := va_D_re hD rfl
  refine lv_iconst (v := 0) hx hb dX1_meanBlame_5 (by decide) ?_
  refine lv_istore_n (lv' := [(1, .int 0), (0, .ref (r 0))]) hx hb dX1_meanBlame_6 rfl hl (by decide) rfl (fun ls hl => ?_)
  refine lv_iconst (v := 0) hx hb dX1_meanBlame_7 (by decide) ?_
  refine lv_istore_n (lv' := [(2, .int 0), (1, .int 0), (0, .ref (r 0))]) hx hb dX1_meanBlame_8 rfl hl (by decide) rfl (fun ls hl => ?_)
  refine w_loop (N := ac) (T := fun i => [(2, .int (nI i)), (1, .int (bsum B i)), (0, .ref (r 0))]) (I := fun _ => True) 0 (Nat.zero_le _) trivial (lv_sub hl [0, 1, 2] rfl) (fun i ls hi hI hl ih => ?_)
  have hl : lv_has ls 3 [(2, .int (nI i)), (1, .int (bsum B i)), (0, .ref (r 0))] := hl
  refine lv_iload_n hx hb dX1_meanBlame_9 rfl (lv_at hl 0 rfl) ?_
  refine lv_aload_n hx hb dX1_meanBlame_10 rfl (lv_at hl 2 rfl) ?_
  refine va_get (D := D) (ci := 1) (v := .int (nI ac)) (C := RX1) (T := TX1) (N := 10) hx hb hts hin hown hK hP 0 rfl rfl 5 (by decide) (hts (.fieldLink RX1 40 "SmudgedStarModel" "astronomers" "I") (List.mem_of_getElem? (i := 2) rfl)) (fun _ h9 => h9) rfl dX1_meanBlame_11 ?_
  refine lv_icmp_ge (tgt := 35) hx hb dX1_meanBlame_14 (by decide) (fun c14 => ?_) (fun c14 => ?_)
  · skip
    have hie : i = ac := gd_ge_t (by omega) hi c14
    rw [hie] at hl
    refine lv_aload_n hx hb dX1_meanBlame_35 rfl (lv_at hl 2 rfl) ?_
    refine va_get (D := D) (ci := 1) (v := .int (nI ac)) (C := RX1) (T := TX1) (N := 10) hx hb hts hin hown hK hP 0 rfl rfl 5 (by decide) (hts (.fieldLink RX1 40 "SmudgedStarModel" "astronomers" "I") (List.mem_of_getElem? (i := 2) rfl)) (fun _ h9 => h9) rfl dX1_meanBlame_36 ?_
    refine lv_if_ne (tgt := 46) hx hb dX1_meanBlame_39 (by decide) (fun c39 => ?_) (fun c39 => ?_)
    · skip
      refine lv_iload_n hx hb dX1_meanBlame_46 rfl (lv_at hl 1 rfl) ?_
      refine lv_i2d hx hb dX1_meanBlame_47 ?_
      refine lv_aload_n hx hb dX1_meanBlame_48 rfl (lv_at hl 2 rfl) ?_
      refine va_get (D := D) (ci := 1) (v := .int (nI ac)) (C := RX1) (T := TX1) (N := 10) hx hb hts hin hown hK hP 0 rfl rfl 5 (by decide) (hts (.fieldLink RX1 40 "SmudgedStarModel" "astronomers" "I") (List.mem_of_getElem? (i := 2) rfl)) (fun _ h9 => h9) rfl dX1_meanBlame_49 ?_
      refine lv_i2d hx hb dX1_meanBlame_52 ?_
      refine lv_ddiv hx hb dX1_meanBlame_53 (mean_ok c39) ?_
      have hPe : va_P D vwCl (wM cI cZ r 0 tc nc ac ch U Z B L F) H := hP
      exact W.dret (v := FP.ddiv (FP.i2d (bsum B ac)) (FP.i2d (nI ac))) hx hb hr (fun t9 ht9 hW9 => ⟨⟨FP.ddiv (FP.i2d (bsum B ac)) (FP.i2d (nI ac)), (), rfl, (by rw [if_neg c39]), by show va_P D vwCl _ t9.heap; rw [ht9]; exact hPe⟩, hS.F ht9⟩) hS.2.2 dX1_meanBlame_54
    · skip
      refine lv_dconst0 hx hb dX1_meanBlame_42 ?_
      refine lv_goto (tgt := 54) hx hb dX1_meanBlame_43 (by decide) ?_
      have hPe : va_P D vwCl (wM cI cZ r 0 tc nc ac ch U Z B L F) H := hP
      exact W.dret (v := FP.dconst0) hx hb hr (fun t9 ht9 hW9 => ⟨⟨FP.dconst0, (), rfl, (by rw [if_pos c39]), by show va_P D vwCl _ t9.heap; rw [ht9]; exact hPe⟩, hS.F ht9⟩) hS.2.2 dX1_meanBlame_54
  · skip
    have hlt : i < ac := gd_ge_f hi c14
    refine lv_iload_n hx hb dX1_meanBlame_17 rfl (lv_at hl 1 rfl) ?_
    refine lv_aload_n hx hb dX1_meanBlame_18 rfl (lv_at hl 2 rfl) ?_
    refine va_get (D := D) (ci := 1) (v := .ref (r 5)) (C := RX1) (T := TX1) (N := 10) hx hb hts hin hown hK hP 0 rfl rfl 8 (by decide) (hts (.fieldLink RX1 23 "SmudgedStarModel" "blames" "[I") (List.mem_of_getElem? (i := 3) rfl)) (fun _ h9 => h9) rfl dX1_meanBlame_19 ?_
    refine lv_iload_n hx hb dX1_meanBlame_22 rfl (lv_at hl 0 rfl) ?_
    refine ia_ld hx hb hK hP 5 0 rfl rfl (j := i) (by omega) (by decide) dX1_meanBlame_23 ?_
    refine pcS_i (As := [.int (B i)]) (rest := [.int (bsum B i)]) ⟨hx, hb, hml, hown, hts⟩ (g_bitCount l (B i)) (va_cwS 1 hts gX1_meanBlame_J6_bitCount_0f7a4 rfl rfl rfl hdJ6_bitCount_0f7a4 ⟨Nat.le_of_ble_eq_true rfl, Nat.le_of_ble_eq_true rfl⟩) rfl hl.1 (Nat.le_of_ble_eq_true rfl) rfl dX1_meanBlame_24 ⟨Nat.le_of_ble_eq_true rfl, Nat.le_of_ble_eq_true rfl⟩ ?_
    refine lv_iadd hx hb dX1_meanBlame_27 ?_
    refine lv_istore_n (lv' := [(1, .int ((bsum B i) + (bc (B i)))), (2, .int (nI i)), (0, .ref (r 0))]) hx hb dX1_meanBlame_28 rfl hl (by decide) rfl (fun ls hl => ?_)
    refine lv_iinc (v := nI (i + 1)) (lv' := [(2, .int (nI (i + 1))), (1, .int ((bsum B i) + (bc (B i)))), (0, .ref (r 0))]) hx hb dX1_meanBlame_29 hl (k := 1) rfl (nI_1 _) (by decide) rfl (fun ls hl => ?_)
    refine lv_goto (tgt := 9) hx hb dX1_meanBlame_32 (by decide) ?_
    have e1 : ((bsum B i) + (bc (B i))) = bsum B (i + 1) := bsum_s B i
    have hl := lv_sub (l' := [(2, .int (nI (i + 1))), (1, .int ((bsum B i) + (bc (B i)))), (0, .ref (r 0))]) hl [0, 1, 2] rfl
    rw [e1] at hl
    exact ih ls hlt trivial hl
