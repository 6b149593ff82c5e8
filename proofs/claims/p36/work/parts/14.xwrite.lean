/-! SmudgedStar: contracts of its methods -/
set_option maxHeartbeats 4000000 in
set_option maxRecDepth 100000 in
theorem w_X_addThing (l : Launch) {D : va_G} {cI cZ : ClassId} {q : Nat → Nat} {tc nc ac : Nat} {ch : Int32} {U : Nat → Int32} {Z : Nat → Bool} {B L F : Nat → Int32} {H : Heap} (hP : va_P D vwCl (wX cI cZ q tc nc ac ch U Z B L F) H) (htc : tc ≤ 8) (hnc : nc ≤ 40) (hac : ac ≤ 8) (hD0 : va_D (fun _ => True) (wX cI cZ q tc nc ac ch U Z B L F)) (h8 : tc < 8) : Met l yX0_addThing wsX0_addThing ({ frames := 0, cells := 0, slots := 0, locals := 0 }) (va_Pc [.ref (q 0)] (rd D vwCl (tyA cI cZ) H)) (va_Qi (fun r (_ : Unit) => r = nI tc) (fun _ t8 => va_P D vwCl (wX cI cZ q (tc + 1) nc ac ch U Z B L F) t8.heap) (va_A (wX cI cZ q tc nc ac ch U Z B L F) H.size)) 0 0 (va_A (wX cI cZ q tc nc ac ch U Z B L F) H.size) := by
  refine Met.ofW (cc := cX0_addThing) (maxL := 2) (ret := (some .int)) (by decide) rfl ?_
  intro p e s m args below meth c s₁ B9 hml hv
  obtain ⟨rfl, hH, hK⟩ := hv
  subst hH
  have hx := B9.exec
  have hb := B9.bytes
  have hr := B9.returns
  have hts := atoms_spec (ws := wsX0_addThing) B9.pre
  have hown : s.vm.findClass RX0 = some m.cls := findClass_of_methodNamed B9.named
  have hlocks := B9.notSynchronized
  have hin : ∀ w ∈ u_ws RX0 TX0 10, w ∈ wsX0_addThing := fun w h => List.mem_cons_of_mem _ (List.mem_append_left _ (List.mem_append_right _ h))
  have hD0 := hD0.self (sz := s.heap.size)
  generalize hAe : va_A (wX cI cZ q tc nc ac ch U Z B L F) s.heap.size = A at hD0 ⊢
  have hA : ∀ q : Nat, s.heap.size ≤ q → A q := fun q h => by rw [← hAe]; exact Or.inr h
  have hS : va_S A s.heap s.heap [] := va_S.rf
  have hD := hD0
  have hl := lv_entry ([.ref (q 0)]) (n := 2) (Nat.le_of_ble_eq_true rfl)
  rw [lg_entry_eq]
  generalize (lg_sl ([.ref (q 0)]) ++ List.replicate (2 - (lg_sl ([.ref (q 0)])).length) Slot.unset).toArray = ls at hl ⊢
  have hl : lv_has ls 2 [(0, .ref (q 0))] := hl
  refine lv_aload_n hx hb dX0_addThing_0 rfl (lv_at hl 0 rfl) ?_
  refine va_get (D := D) (ci := 0) (v := .int (nI tc)) (C := RX0) (T := TX0) (N := 10) hx hb hts hin hown hK hP 0 rfl rfl 0 (by decide) (hts (.fieldLink RX0 9 "SmudgedStar" "thingCount" "I") (List.mem_of_getElem? (i := 3) rfl)) (fun _ h9 => h9) rfl dX0_addThing_1 ?_
  refine lv_bipush (v := 8) hx hb dX0_addThing_4 (by decide) ?_
  refine lv_icmp_lt (tgt := 19) hx hb dX0_addThing_6 (by decide) (fun c6 => ?_) (fun c6 => absurd (nI_lt (b := 8) h8 (by decide)) c6)
  refine lv_aload_n hx hb dX0_addThing_19 rfl (lv_at hl 0 rfl) ?_
  refine va_get (D := D) (ci := 0) (v := .int (nI tc)) (C := RX0) (T := TX0) (N := 10) hx hb hts hin hown hK hP 0 rfl rfl 0 (by decide) (hts (.fieldLink RX0 9 "SmudgedStar" "thingCount" "I") (List.mem_of_getElem? (i := 3) rfl)) (fun _ h9 => h9) rfl dX0_addThing_20 ?_
  refine lv_istore_n (lv' := [(1, .int (nI tc)), (0, .ref (q 0))]) hx hb dX0_addThing_23 rfl hl (by decide) rfl (fun ls hl => ?_)
  refine lv_aload_n hx hb dX0_addThing_24 rfl (lv_at hl 1 rfl) ?_
  refine lv_dup hx hb dX0_addThing_25 rfl ?_
  refine va_get (D := D) (ci := 0) (v := .int (nI tc)) (C := RX0) (T := TX0) (N := 10) hx hb hts hin hown hK hP 0 rfl rfl 0 (by decide) (hts (.fieldLink RX0 9 "SmudgedStar" "thingCount" "I") (List.mem_of_getElem? (i := 3) rfl)) (fun _ h9 => h9) rfl dX0_addThing_26 ?_
  refine lv_iconst (v := 1) hx hb dX0_addThing_29 (by decide) ?_
  refine lv_iadd hx hb dX0_addThing_30 ?_
  refine lv_cst (y := nI (tc + 1)) (nI_1 tc) ?_
  refine va_put (D := D) (ci := 0) (v := .int (nI (tc + 1))) (ty := .int) (C := RX0) (T := TX0) (N := 10) hx hb hts hin tyX0 tyX0_ok nmX0 hown hK hP hD hS 0 rfl rfl 0 (by decide) (hts (.fieldLink RX0 9 "SmudgedStar" "thingCount" "I") (List.mem_of_getElem? (i := 3) rfl)) (fun _ h9 => h9) rfl (by decide +kernel) rfl rfl (Nat.le_of_ble_eq_true rfl) dX0_addThing_31 (fun H locs hP hD hS => ?_)
  have hP : va_P D vwCl (wX cI cZ q (tc + 1) nc ac ch U Z B L F) H := hP
  have hD : va_D A (wX cI cZ q (tc + 1) nc ac ch U Z B L F) := va_D_re hD rfl
  refine lv_iload_n hx hb dX0_addThing_34 rfl (lv_at hl 0 rfl) ?_
  have hPe : va_P D vwCl (wX cI cZ q (tc + 1) nc ac ch U Z B L F) H := hP
  exact W.iret (v := nI tc) hx hb hr (fun t9 ht9 hW9 => ⟨⟨nI tc, (), rfl, rfl, by show va_P D vwCl _ t9.heap; rw [ht9]; exact hPe⟩, hS.F ht9⟩) hS.2.2 dX0_addThing_35
set_option maxHeartbeats 4000000 in
set_option maxRecDepth 100000 in
theorem w_X_letBlame (l : Launch) {D : va_G} {cI cZ : ClassId} {q : Nat → Nat} {tc nc ac : Nat} {ch : Int32} {U : Nat → Int32} {Z : Nat → Bool} {B L F : Nat → Int32} {H : Heap} (hP : va_P D vwCl (wX cI cZ q tc nc ac ch U Z B L F) H) (htc : tc ≤ 8) (hnc : nc ≤ 40) (hac : ac ≤ 8) (hD0 : va_D (fun _ => True) (wX cI cZ q tc nc ac ch U Z B L F)) {a : Nat} {v : Int32} (ha : a < 8) : Met l yX0_letBlame wsX0_letBlame ({ frames := 0, cells := 0, slots := 0, locals := 0 }) (va_Pc [.ref (q 0), .int (nI a), .int v] (rd D vwCl (tyA cI cZ) H)) (va_Qv (fun (_ : Unit) => True) (fun _ t8 => va_P D vwCl (wX cI cZ q tc nc ac ch U Z (upd B a v) (upd L a (F a)) F) t8.heap) (va_A (wX cI cZ q tc nc ac ch U Z B L F) H.size)) 0 0 (va_A (wX cI cZ q tc nc ac ch U Z B L F) H.size) := by
  refine Met.ofW (cc := cX0_letBlame) (maxL := 3) (ret := none) (by decide) rfl ?_
  intro p e s m args below meth c s₁ B9 hml hv
  obtain ⟨rfl, hH, hK⟩ := hv
  subst hH
  have hx := B9.exec
  have hb := B9.bytes
  have hr := B9.returns
  have hts := atoms_spec (ws := wsX0_letBlame) B9.pre
  have hown : s.vm.findClass RX0 = some m.cls := findClass_of_methodNamed B9.named
  have hlocks := B9.notSynchronized
  have hin : ∀ w ∈ u_ws RX0 TX0 10, w ∈ wsX0_letBlame := fun w h => List.mem_cons_of_mem _ (List.mem_append_right _ h)
  have hD0 := hD0.self (sz := s.heap.size)
  generalize hAe : va_A (wX cI cZ q tc nc ac ch U Z B L F) s.heap.size = A at hD0 ⊢
  have hA : ∀ q : Nat, s.heap.size ≤ q → A q := fun q h => by rw [← hAe]; exact Or.inr h
  have hS : va_S A s.heap s.heap [] := va_S.rf
  have hD := hD0
  have hl := lv_entry ([.ref (q 0), .int (nI a), .int v]) (n := 3) (Nat.le_of_ble_eq_true rfl)
  rw [lg_entry_eq]
  generalize (lg_sl ([.ref (q 0), .int (nI a), .int v]) ++ List.replicate (3 - (lg_sl ([.ref (q 0), .int (nI a), .int v])).length) Slot.unset).toArray = ls at hl ⊢
  have hl : lv_has ls 3 [(0, .ref (q 0)), (1, .int (nI a)), (2, .int v)] := hl
  refine lv_aload_n hx hb dX0_letBlame_0 rfl (lv_at hl 0 rfl) ?_
  refine va_get (D := D) (ci := 0) (v := .ref (q 4)) (C := RX0) (T := TX0) (N := 10) hx hb hts hin hown hK hP 0 rfl rfl 6 (by decide) (hts (.fieldLink RX0 30 "SmudgedStar" "blamedThings" "[I") (List.mem_of_getElem? (i := 1) rfl)) (fun _ h9 => h9) rfl dX0_letBlame_1 ?_
  refine lv_iload_n hx hb dX0_letBlame_4 rfl (lv_at hl 1 rfl) ?_
  refine lv_iload_n hx hb dX0_letBlame_5 rfl (lv_at hl 2 rfl) ?_
  refine ia_st hx hb hK hP hD hS 4 0 rfl rfl (j := a) (by omega) (by decide) dX0_letBlame_6 (fun H locs hP hS => ?_)
  have hP : va_P D vwCl (wX cI cZ q tc nc ac ch U Z (upd B a v) L F) H := hP
  have hD : va_D A (wX cI cZ q tc nc ac ch U Z (upd B a v) L F) := va_D_re hD rfl
  refine lv_aload_n hx hb dX0_letBlame_7 rfl (lv_at hl 0 rfl) ?_
  refine va_get (D := D) (ci := 0) (v := .ref (q 5)) (C := RX0) (T := TX0) (N := 10) hx hb hts hin hown hK hP 0 rfl rfl 7 (by decide) (hts (.fieldLink RX0 33 "SmudgedStar" "stubbornnessLeft" "[I") (List.mem_of_getElem? (i := 2) rfl)) (fun _ h9 => h9) rfl dX0_letBlame_8 ?_
  refine lv_iload_n hx hb dX0_letBlame_11 rfl (lv_at hl 1 rfl) ?_
  refine lv_aload_n hx hb dX0_letBlame_12 rfl (lv_at hl 0 rfl) ?_
  refine va_get (D := D) (ci := 0) (v := .ref (q 6)) (C := RX0) (T := TX0) (N := 10) hx hb hts hin hown hK hP 0 rfl rfl 8 (by decide) (hts (.fieldLink RX0 36 "SmudgedStar" "stubbornnessAtFirst" "[I") (List.mem_of_getElem? (i := 3) rfl)) (fun _ h9 => h9) rfl dX0_letBlame_13 ?_
  refine lv_iload_n hx hb dX0_letBlame_16 rfl (lv_at hl 1 rfl) ?_
  refine ia_ld hx hb hK hP 6 0 rfl rfl (j := a) (by omega) (by decide) dX0_letBlame_17 ?_
  refine ia_st hx hb hK hP hD hS 5 0 rfl rfl (j := a) (by omega) (by decide) dX0_letBlame_18 (fun H locs hP hS => ?_)
  have hP : va_P D vwCl (wX cI cZ q tc nc ac ch U Z (upd B a v) (upd L a (F a)) F) H := hP
  have hD : va_D A (wX cI cZ q tc nc ac ch U Z (upd B a v) (upd L a (F a)) F) := va_D_re hD rfl
  have hPe : va_P D vwCl (wX cI cZ q tc nc ac ch U Z (upd B a v) (upd L a (F a)) F) H := hP
  exact W.vret hx hb hr (fun t9 ht9 hW9 => ⟨⟨(), rfl, trivial, by show va_P D vwCl _ t9.heap; rw [ht9]; exact hPe⟩, hS.F ht9⟩) hS.2.2 dX0_letBlame_19
set_option maxHeartbeats 4000000 in
set_option maxRecDepth 100000 in
theorem w_X_addAstronomer (l : Launch) {D : va_G} {cI cZ : ClassId} {q : Nat → Nat} {tc nc ac : Nat} {ch : Int32} {U : Nat → Int32} {Z : Nat → Bool} {B L F : Nat → Int32} {H : Heap} (hP : va_P D vwCl (wX cI cZ q tc nc ac ch U Z B L F) H) (htc : tc ≤ 8) (hnc : nc ≤ 40) (hac : ac ≤ 8) (hD0 : va_D (fun _ => True) (wX cI cZ q tc nc ac ch U Z B L F)) {v : Int32} (hv0 : ¬ v < 0) (hv5 : v ≤ 5) (h8 : ac < 8) : Met l yX0_addAstronomer wsX0_addAstronomer ({ frames := 1, cells := 0, slots := 0, locals := 22 }) (va_Pc [.ref (q 0), .int v] (rd D vwCl (tyA cI cZ) H)) (va_Qi (fun r (_ : Unit) => r = nI ac) (fun _ t8 => va_P D vwCl (wX cI cZ q tc nc (ac + 1) ch U Z (upd B ac 0) (upd L ac (upd F ac v ac)) (upd F ac v)) t8.heap) (va_A (wX cI cZ q tc nc ac ch U Z B L F) H.size)) 0 0 (va_A (wX cI cZ q tc nc ac ch U Z B L F) H.size) := by
  refine Met.ofW (cc := cX0_addAstronomer) (maxL := 3) (ret := (some .int)) (by decide) rfl ?_
  intro p e s m args below meth c s₁ B9 hml hv
  obtain ⟨rfl, hH, hK⟩ := hv
  subst hH
  have hx := B9.exec
  have hb := B9.bytes
  have hr := B9.returns
  have hts := atoms_spec (ws := wsX0_addAstronomer) B9.pre
  have hown : s.vm.findClass RX0 = some m.cls := findClass_of_methodNamed B9.named
  have hlocks := B9.notSynchronized
  have hin : ∀ w ∈ u_ws RX0 TX0 10, w ∈ wsX0_addAstronomer := fun w h => List.mem_cons_of_mem _ (List.mem_append_left _ (List.mem_append_left _ (List.mem_append_right _ h)))
  have hD0 := hD0.self (sz := s.heap.size)
  generalize hAe : va_A (wX cI cZ q tc nc ac ch U Z B L F) s.heap.size = A at hD0 ⊢
  have hA : ∀ q : Nat, s.heap.size ≤ q → A q := fun q h => by rw [← hAe]; exact Or.inr h
  have hS : va_S A s.heap s.heap [] := va_S.rf
  have hD := hD0
  have hl := lv_entry ([.ref (q 0), .int v]) (n := 3) (Nat.le_of_ble_eq_true rfl)
  rw [lg_entry_eq]
  generalize (lg_sl ([.ref (q 0), .int v]) ++ List.replicate (3 - (lg_sl ([.ref (q 0), .int v])).length) Slot.unset).toArray = ls at hl ⊢
  have hl : lv_has ls 3 [(0, .ref (q 0)), (1, .int v)] := hl
  refine lv_iload_n hx hb dX0_addAstronomer_0 rfl (lv_at hl 1 rfl) ?_
  refine lv_if_lt (tgt := 9) hx hb dX0_addAstronomer_1 (by decide) (fun c1 => absurd c1 hv0) (fun c1 => ?_)
  refine lv_iload_n hx hb dX0_addAstronomer_4 rfl (lv_at hl 1 rfl) ?_
  refine lv_iconst (v := 5) hx hb dX0_addAstronomer_5 (by decide) ?_
  refine lv_icmp_le (tgt := 19) hx hb dX0_addAstronomer_6 (by decide) (fun c6 => ?_) (fun c6 => absurd hv5 c6)
  refine lv_aload_n hx hb dX0_addAstronomer_19 rfl (lv_at hl 0 rfl) ?_
  refine va_get (D := D) (ci := 0) (v := .int (nI ac)) (C := RX0) (T := TX0) (N := 10) hx hb hts hin hown hK hP 0 rfl rfl 5 (by decide) (hts (.fieldLink RX0 27 "SmudgedStar" "astronomerCount" "I") (List.mem_of_getElem? (i := 5) rfl)) (fun _ h9 => h9) rfl dX0_addAstronomer_20 ?_
  refine lv_bipush (v := 8) hx hb dX0_addAstronomer_23 (by decide) ?_
  refine lv_icmp_lt (tgt := 38) hx hb dX0_addAstronomer_25 (by decide) (fun c25 => ?_) (fun c25 => absurd (nI_lt (b := 8) h8 (by decide)) c25)
  refine lv_aload_n hx hb dX0_addAstronomer_38 rfl (lv_at hl 0 rfl) ?_
  refine va_get (D := D) (ci := 0) (v := .int (nI ac)) (C := RX0) (T := TX0) (N := 10) hx hb hts hin hown hK hP 0 rfl rfl 5 (by decide) (hts (.fieldLink RX0 27 "SmudgedStar" "astronomerCount" "I") (List.mem_of_getElem? (i := 5) rfl)) (fun _ h9 => h9) rfl dX0_addAstronomer_39 ?_
  refine lv_istore_n (lv' := [(2, .int (nI ac)), (0, .ref (q 0)), (1, .int v)]) hx hb dX0_addAstronomer_42 rfl hl (by decide) rfl (fun ls hl => ?_)
  refine lv_aload_n hx hb dX0_addAstronomer_43 rfl (lv_at hl 1 rfl) ?_
  refine va_get (D := D) (ci := 0) (v := .ref (q 6)) (C := RX0) (T := TX0) (N := 10) hx hb hts hin hown hK hP 0 rfl rfl 8 (by decide) (hts (.fieldLink RX0 36 "SmudgedStar" "stubbornnessAtFirst" "[I") (List.mem_of_getElem? (i := 6) rfl)) (fun _ h9 => h9) rfl dX0_addAstronomer_44 ?_
  refine lv_iload_n hx hb dX0_addAstronomer_47 rfl (lv_at hl 0 rfl) ?_
  refine lv_iload_n hx hb dX0_addAstronomer_48 rfl (lv_at hl 2 rfl) ?_
  refine ia_st hx hb hK hP hD hS 6 0 rfl rfl (j := ac) (by omega) (by decide) dX0_addAstronomer_49 (fun H locs hP hS => ?_)
  have hP : va_P D vwCl (wX cI cZ q tc nc ac ch U Z B L (upd F ac v)) H := hP
  have hD : va_D A (wX cI cZ q tc nc ac ch U Z B L (upd F ac v)) := va_D_re hD rfl
  refine lv_aload_n hx hb dX0_addAstronomer_50 rfl (lv_at hl 1 rfl) ?_
  refine lv_iload_n hx hb dX0_addAstronomer_51 rfl (lv_at hl 0 rfl) ?_
  refine lv_iconst (v := 0) hx hb dX0_addAstronomer_52 (by decide) ?_
  refine wcV_v (As := [.int (nI ac), .int 0]) (rest := []) ⟨hx, hb, hml, hown, hts⟩ (w_X_letBlame l hP htc hnc hac (hD.weaken (fun _ _ _ _ => trivial)) (a := ac) (v := 0) h8) (cwV 2 hts gX0_addAstronomer_X0_letBlame rfl rfl rfl hdX0_letBlame ⟨Nat.le_of_ble_eq_true rfl, Nat.le_of_ble_eq_true rfl⟩) (va_recv hK hP (ci := 0) (q0 := 0) rfl rfl) hK hS (va_free_all hD hS hA) rfl hl.1 (Nat.le_of_ble_eq_true rfl) rfl dX0_addAstronomer_53 ⟨Nat.le_of_ble_eq_true rfl, Nat.le_of_ble_eq_true rfl⟩ (fun H locs hP hz1 hk1 hS => ?_)
  have hP : va_P D vwCl (wX cI cZ q tc nc ac ch U Z (upd B ac 0) (upd L ac ((upd F ac v) ac)) (upd F ac v)) H := hP
  have hD : va_D A (wX cI cZ q tc nc ac ch U Z (upd B ac 0) (upd L ac ((upd F ac v) ac)) (upd F ac v)) := va_D_re hD rfl
  refine lv_aload_n hx hb dX0_addAstronomer_56 rfl (lv_at hl 1 rfl) ?_
  refine lv_dup hx hb dX0_addAstronomer_57 rfl ?_
  refine va_get (D := D) (ci := 0) (v := .int (nI ac)) (C := RX0) (T := TX0) (N := 10) hx hb hts hin hown hK hP 0 rfl rfl 5 (by decide) (hts (.fieldLink RX0 27 "SmudgedStar" "astronomerCount" "I") (List.mem_of_getElem? (i := 5) rfl)) (fun _ h9 => h9) rfl dX0_addAstronomer_58 ?_
  refine lv_iconst (v := 1) hx hb dX0_addAstronomer_61 (by decide) ?_
  refine lv_iadd hx hb dX0_addAstronomer_62 ?_
  refine lv_cst (y := nI (ac + 1)) (nI_1 ac) ?_
  refine va_put (D := D) (ci := 0) (v := .int (nI (ac + 1))) (ty := .int) (C := RX0) (T := TX0) (N := 10) hx hb hts hin tyX0 tyX0_ok nmX0 hown hK hP hD hS 0 rfl rfl 5 (by decide) (hts (.fieldLink RX0 27 "SmudgedStar" "astronomerCount" "I") (List.mem_of_getElem? (i := 5) rfl)) (fun _ h9 => h9) rfl (by decide +kernel) rfl rfl (Nat.le_of_ble_eq_true rfl) dX0_addAstronomer_63 (fun H locs hP hD hS => ?_)
  have hP : va_P D vwCl (wX cI cZ q tc nc (ac + 1) ch U Z (upd B ac 0) (upd L ac ((upd F ac v) ac)) (upd F ac v)) H := hP
  have hD : va_D A (wX cI cZ q tc nc (ac + 1) ch U Z (upd B ac 0) (upd L ac ((upd F ac v) ac)) (upd F ac v)) := va_D_re hD rfl
  refine lv_iload_n hx hb dX0_addAstronomer_66 rfl (lv_at hl 0 rfl) ?_
  have hPe : va_P D vwCl (wX cI cZ q tc nc (ac + 1) ch U Z (upd B ac 0) (upd L ac (upd F ac v ac)) (upd F ac v)) H := hP
  exact W.iret (v := nI ac) hx hb hr (fun t9 ht9 hW9 => ⟨⟨nI ac, (), rfl, rfl, by show va_P D vwCl _ t9.heap; rw [ht9]; exact hPe⟩, hS.F ht9⟩) hS.2.2 dX0_addAstronomer_67
set_option maxHeartbeats 4000000 in
set_option maxRecDepth 100000 in
theorem w_X_blame (l : Launch) {D : va_G} {cI cZ : ClassId} {q : Nat → Nat} {tc nc ac : Nat} {ch : Int32} {U : Nat → Int32} {Z : Nat → Bool} {B L F : Nat → Int32} {H : Heap} (hP : va_P D vwCl (wX cI cZ q tc nc ac ch U Z B L F) H) (htc : tc ≤ 8) (hnc : nc ≤ 40) (hac : ac ≤ 8) (hD0 : va_D (fun _ => True) (wX cI cZ q tc nc ac ch U Z B L F)) {t k : Nat} (ht : t < ac) (hk : k < pw tc) : Met l yX0_blame wsX0_blame ({ frames := 2, cells := 0, slots := 0, locals := 41 }) (va_Pc [.ref (q 0), .int (nI t), .int (nI k)] (rd D vwCl (tyA cI cZ) H)) (va_Qi (fun r (_ : Unit) => r = B t) (fun _ t8 => va_P D vwCl (wX cI cZ q tc nc ac ch U Z (upd B t (nI k)) (upd L t (F t)) F) t8.heap) (va_A (wX cI cZ q tc nc ac ch U Z B L F) H.size)) 0 0 (va_A (wX cI cZ q tc nc ac ch U Z B L F) H.size) := by
  refine Met.ofW (cc := cX0_blame) (maxL := 4) (ret := (some .int)) (by decide) rfl ?_
  intro p e s m args below meth c s₁ B9 hml hv
  obtain ⟨rfl, hH, hK⟩ := hv
  subst hH
  have hx := B9.exec
  have hb := B9.bytes
  have hr := B9.returns
  have hts := atoms_spec (ws := wsX0_blame) B9.pre
  have hown : s.vm.findClass RX0 = some m.cls := findClass_of_methodNamed B9.named
  have hlocks := B9.notSynchronized
  have hin : ∀ w ∈ u_ws RX0 TX0 10, w ∈ wsX0_blame := fun w h => List.mem_cons_of_mem _ (List.mem_append_left _ (List.mem_append_left _ (List.mem_append_right _ h)))
  have hD0 := hD0.self (sz := s.heap.size)
  generalize hAe : va_A (wX cI cZ q tc nc ac ch U Z B L F) s.heap.size = A at hD0 ⊢
  have hA : ∀ q : Nat, s.heap.size ≤ q → A q := fun q h => by rw [← hAe]; exact Or.inr h
  have hS : va_S A s.heap s.heap [] := va_S.rf
  have hD := hD0
  have hl := lv_entry ([.ref (q 0), .int (nI t), .int (nI k)]) (n := 4) (Nat.le_of_ble_eq_true rfl)
  rw [lg_entry_eq]
  generalize (lg_sl ([.ref (q 0), .int (nI t), .int (nI k)]) ++ List.replicate (4 - (lg_sl ([.ref (q 0), .int (nI t), .int (nI k)])).length) Slot.unset).toArray = ls at hl ⊢
  have hl : lv_has ls 4 [(0, .ref (q 0)), (1, .int (nI t)), (2, .int (nI k))] := hl
  refine lv_aload_n hx hb dX0_blame_0 rfl (lv_at hl 0 rfl) ?_
  refine lv_iload_n hx hb dX0_blame_1 rfl (lv_at hl 1 rfl) ?_
  refine pcV_v (As := [.int (nI t)]) (rest := []) ⟨hx, hb, hml, hown, hts⟩ (g_X_requireAstronomer l hP htc hnc hac ht) (cwV 1 hts gX0_blame_X0_requireAstronomer rfl rfl rfl hdX0_requireAstronomer ⟨Nat.le_of_ble_eq_true rfl, Nat.le_of_ble_eq_true rfl⟩) (va_recv hK hP (ci := 0) (q0 := 0) rfl rfl) hK rfl hl.1 (Nat.le_of_ble_eq_true rfl) rfl dX0_blame_2 ⟨Nat.le_of_ble_eq_true rfl, Nat.le_of_ble_eq_true rfl⟩ ?_
  refine lv_aload_n hx hb dX0_blame_5 rfl (lv_at hl 0 rfl) ?_
  refine lv_iload_n hx hb dX0_blame_6 rfl (lv_at hl 2 rfl) ?_
  refine pcV_v (As := [.int (nI k)]) (rest := []) ⟨hx, hb, hml, hown, hts⟩ (g_X_requireSet l hP htc hnc hac hk) (cwV 1 hts gX0_blame_X0_requireSet rfl rfl rfl hdX0_requireSet ⟨Nat.le_of_ble_eq_true rfl, Nat.le_of_ble_eq_true rfl⟩) (va_recv hK hP (ci := 0) (q0 := 0) rfl rfl) hK rfl hl.1 (Nat.le_of_ble_eq_true rfl) rfl dX0_blame_7 ⟨Nat.le_of_ble_eq_true rfl, Nat.le_of_ble_eq_true rfl⟩ ?_
  refine lv_aload_n hx hb dX0_blame_10 rfl (lv_at hl 0 rfl) ?_
  refine va_get (D := D) (ci := 0) (v := .ref (q 4)) (C := RX0) (T := TX0) (N := 10) hx hb hts hin hown hK hP 0 rfl rfl 6 (by decide) (hts (.fieldLink RX0 30 "SmudgedStar" "blamedThings" "[I") (List.mem_of_getElem? (i := 1) rfl)) (fun _ h9 => h9) rfl dX0_blame_11 ?_
  refine lv_iload_n hx hb dX0_blame_14 rfl (lv_at hl 1 rfl) ?_
  refine ia_ld hx hb hK hP 4 0 rfl rfl (j := t) (by omega) (by decide) dX0_blame_15 ?_
  refine lv_istore_n (lv' := [(3, .int (B t)), (0, .ref (q 0)), (1, .int (nI t)), (2, .int (nI k))]) hx hb dX0_blame_16 rfl hl (by decide) rfl (fun ls hl => ?_)
  refine lv_aload_n hx hb dX0_blame_17 rfl (lv_at hl 1 rfl) ?_
  refine lv_iload_n hx hb dX0_blame_18 rfl (lv_at hl 2 rfl) ?_
  refine lv_iload_n hx hb dX0_blame_19 rfl (lv_at hl 3 rfl) ?_
  refine wcV_v (As := [.int (nI t), .int (nI k)]) (rest := []) ⟨hx, hb, hml, hown, hts⟩ (w_X_letBlame l hP htc hnc hac (hD.weaken (fun _ _ _ _ => trivial)) (a := t) (v := nI k) (by omega : t < 8)) (cwV 2 hts gX0_blame_X0_letBlame rfl rfl rfl hdX0_letBlame ⟨Nat.le_of_ble_eq_true rfl, Nat.le_of_ble_eq_true rfl⟩) (va_recv hK hP (ci := 0) (q0 := 0) rfl rfl) hK hS (va_free_all hD hS hA) rfl hl.1 (Nat.le_of_ble_eq_true rfl) rfl dX0_blame_20 ⟨Nat.le_of_ble_eq_true rfl, Nat.le_of_ble_eq_true rfl⟩ (fun H locs hP hz1 hk1 hS => ?_)
  have hP : va_P D vwCl (wX cI cZ q tc nc ac ch U Z (upd B t (nI k)) (upd L t (F t)) F) H := hP
  have hD : va_D A (wX cI cZ q tc nc ac ch U Z (upd B t (nI k)) (upd L t (F t)) F) := va_D_re hD rfl
  refine lv_iload_n hx hb dX0_blame_23 rfl (lv_at hl 0 rfl) ?_
  have hPe : va_P D vwCl (wX cI cZ q tc nc ac ch U Z (upd B t (nI k)) (upd L t (F t)) F) H := hP
  exact W.iret (v := B t) hx hb hr (fun t9 ht9 hW9 => ⟨⟨B t, (), rfl, rfl, by show va_P D vwCl _ t9.heap; rw [ht9]; exact hPe⟩, hS.F ht9⟩) hS.2.2 dX0_blame_24
set_option maxHeartbeats 4000000 in
set_option maxRecDepth 100000 in
theorem w_X_countMisses (l : Launch) {D : va_G} {cI cZ : ClassId} {q : Nat → Nat} {tc nc ac : Nat} {ch : Int32} {U : Nat → Int32} {Z : Nat → Bool} {M B L F : Nat → Int32} {H : Heap} (hP : va_P D vwCl (wXm cI cZ q tc nc ac ch U Z M B L F) H) (htc : tc ≤ 8) (hnc : nc ≤ 40) (hac : ac ≤ 8) (hD0 : va_D (fun _ => True) (wXm cI cZ q tc nc ac ch U Z M B L F)) {u v : Int32} {z : Bool} : Met l yX0_countMisses wsX0_countMisses ({ frames := 1, cells := 0, slots := 0, locals := 22 }) (va_Pc [.ref (q 0), .int u, .int (bI z), .int v] (rd D vwCl (tyA cI cZ) H)) (va_Qv (fun (_ : Unit) => True) (fun _ t8 => va_P D vwCl (wXm cI cZ q tc nc ac ch U Z (mrg (cM M u z v) M 256) B L F) t8.heap) (va_A (wXm cI cZ q tc nc ac ch U Z M B L F) H.size)) 0 0 (va_A (wXm cI cZ q tc nc ac ch U Z M B L F) H.size) := by
  refine Met.ofW (cc := cX0_countMisses) (maxL := 5) (ret := none) (by decide) rfl ?_
  intro p e s m args below meth c s₁ B9 hml hv
  obtain ⟨rfl, hH, hK⟩ := hv
  subst hH
  have hx := B9.exec
  have hb := B9.bytes
  have hr := B9.returns
  have hts := atoms_spec (ws := wsX0_countMisses) B9.pre
  have hown : s.vm.findClass RX0 = some m.cls := findClass_of_methodNamed B9.named
  have hlocks := B9.notSynchronized
  have hin : ∀ w ∈ u_ws RX0 TX0 10, w ∈ wsX0_countMisses := fun w h => List.mem_cons_of_mem _ (List.mem_append_right _ h)
  have hD0 := hD0.self (sz := s.heap.size)
  generalize hAe : va_A (wXm cI cZ q tc nc ac ch U Z M B L F) s.heap.size = A at hD0 ⊢
  have hA : ∀ q : Nat, s.heap.size ≤ q → A q := fun q h => by rw [← hAe]; exact Or.inr h
  have hS : va_S A s.heap s.heap [] := va_S.rf
  have hD := hD0
  have hl := lv_entry ([.ref (q 0), .int u, .int (bI z), .int v]) (n := 5) (Nat.le_of_ble_eq_true rfl)
  rw [lg_entry_eq]
  generalize (lg_sl ([.ref (q 0), .int u, .int (bI z), .int v]) ++ List.replicate (5 - (lg_sl ([.ref (q 0), .int u, .int (bI z), .int v])).length) Slot.unset).toArray = ls at hl ⊢
  have hl : lv_has ls 5 [(0, .ref (q 0)), (1, .int u), (2, .int (bI z)), (3, .int v)] := hl
  refine lv_iconst (v := 0) hx hb dX0_countMisses_0 (by decide) ?_
  refine lv_istore (lv' := [(4, .int 0), (0, .ref (q 0)), (1, .int u), (2, .int (bI z)), (3, .int v)]) hx hb dX0_countMisses_1 hl (by decide) rfl (fun ls hl => ?_)
  refine w_loopH (N := 256) (T := fun i => [(4, .int (nI i)), (0, .ref (q 0)), (1, .int u), (2, .int (bI z)), (3, .int v)]) (w := fun i => wXm cI cZ q tc nc ac ch U Z (mrg (cM M u z v) M i) B L F) 0 (Nat.zero_le _) (lv_sub hl [0, 1, 2, 3, 4] rfl) (D := D) (cl := vwCl) hP hS (fun i ls H locs hi hi0 hl hP hS ih => ?_)
  have hP : va_P D vwCl (wXm cI cZ q tc nc ac ch U Z (mrg (cM M u z v) M i) B L F) H := hP
  have hD : va_D A (wXm cI cZ q tc nc ac ch U Z (mrg (cM M u z v) M i) B L F) := va_D_re hD0 rfl
  have hl : lv_has ls 5 [(4, .int (nI i)), (0, .ref (q 0)), (1, .int u), (2, .int (bI z)), (3, .int v)] := hl
  refine lv_iload hx hb dX0_countMisses_3 (lv_at hl 0 rfl) ?_
  refine lv_sipush (v := 256) hx hb dX0_countMisses_5 (by decide) ?_
  refine lv_icmp_ge (tgt := 38) hx hb dX0_countMisses_8 (by decide) (fun c8 => ?_) (fun c8 => ?_)
  · skip
    have hie : i = 256 := gd_ge_t (N := 256) (by omega) hi c8
    rw [hie] at hl
    rw [hie] at hP hD
    have hPe : va_P D vwCl (wXm cI cZ q tc nc ac ch U Z (mrg (cM M u z v) M 256) B L F) H := hP
    exact W.vret hx hb hr (fun t9 ht9 hW9 => ⟨⟨(), rfl, trivial, by show va_P D vwCl _ t9.heap; rw [ht9]; exact hPe⟩, hS.F ht9⟩) hS.2.2 dX0_countMisses_38
  · skip
    have hlt : i < 256 := gd_ge_f (N := 256) hi c8
    refine lv_iload hx hb dX0_countMisses_11 (lv_at hl 0 rfl) ?_
    refine lv_iload_n hx hb dX0_countMisses_13 rfl (lv_at hl 2 rfl) ?_
    refine lv_iload_n hx hb dX0_countMisses_14 rfl (lv_at hl 3 rfl) ?_
    refine pcS_i (As := [.int (nI i), .int u, .int (bI z)]) (rest := []) ⟨hx, hb, hml, hown, hts⟩ (g_X_explains l (nI i) u z) (va_cwS 3 hts gX0_countMisses_X0_explains rfl rfl rfl hdX0_explains ⟨Nat.le_of_ble_eq_true rfl, Nat.le_of_ble_eq_true rfl⟩) rfl hl.1 (Nat.le_of_ble_eq_true rfl) rfl dX0_countMisses_15 ⟨Nat.le_of_ble_eq_true rfl, Nat.le_of_ble_eq_true rfl⟩ ?_
    refine lv_ifb_ne (tgt := 32) hx hb dX0_countMisses_18 (by decide) (fun c18 => ?_) (fun c18 => ?_)
    · skip
      refine lv_iinc (v := nI (i + 1)) (lv' := [(4, .int (nI (i + 1))), (0, .ref (q 0)), (1, .int u), (2, .int (bI z)), (3, .int v)]) hx hb dX0_countMisses_32 hl (k := 0) rfl (nI_1 _) (by decide) rfl (fun ls hl => ?_)
      refine lv_goto (tgt := 3) hx hb dX0_countMisses_35 (by decide) ?_
      have hl := lv_sub (l' := [(4, .int (nI (i + 1))), (0, .ref (q 0)), (1, .int u), (2, .int (bI z)), (3, .int v)]) hl [0, 1, 2, 3, 4] rfl
      rw [mrg_k (cM M u z v) M i ((if_pos c18).symm)] at hP
      exact ih ls H locs hlt hl hP hS
    · skip
      refine lv_aload_n hx hb dX0_countMisses_21 rfl (lv_at hl 1 rfl) ?_
      refine va_get (D := D) (ci := 0) (v := .ref (q 3)) (C := RX0) (T := TX0) (N := 10) hx hb hts hin hown hK hP 0 rfl rfl 4 (by decide) (hts (.fieldLink RX0 24 "SmudgedStar" "missedNights" "[I") (List.mem_of_getElem? (i := 1) rfl)) (fun _ h9 => h9) rfl dX0_countMisses_22 ?_
      refine lv_iload hx hb dX0_countMisses_25 (lv_at hl 0 rfl) ?_
      refine lv_dup2_11 hx hb dX0_countMisses_27 rfl rfl ?_
      refine ia_ld hx hb hK hP 3 0 rfl rfl (j := i) (by omega) (by decide) dX0_countMisses_28 ?_
      refine lv_iload_n hx hb dX0_countMisses_29 rfl (lv_at hl 4 rfl) ?_
      refine lv_iadd hx hb dX0_countMisses_30 ?_
      refine ia_st hx hb hK hP hD hS 3 0 rfl rfl (j := i) (by omega) (by decide) dX0_countMisses_31 (fun H locs hP hS => ?_)
      have hP : va_P D vwCl (wXm cI cZ q tc nc ac ch U Z (upd (mrg (cM M u z v) M i) i (((mrg (cM M u z v) M i) i) + v)) B L F) H := hP
      have hD : va_D A (wXm cI cZ q tc nc ac ch U Z (upd (mrg (cM M u z v) M i) i (((mrg (cM M u z v) M i) i) + v)) B L F) := va_D_re hD rfl
      refine lv_iinc (v := nI (i + 1)) (lv' := [(4, .int (nI (i + 1))), (0, .ref (q 0)), (1, .int u), (2, .int (bI z)), (3, .int v)]) hx hb dX0_countMisses_32 hl (k := 0) rfl (nI_1 _) (by decide) rfl (fun ls hl => ?_)
      refine lv_goto (tgt := 3) hx hb dX0_countMisses_35 (by decide) ?_
      have hl := lv_sub (l' := [(4, .int (nI (i + 1))), (0, .ref (q 0)), (1, .int u), (2, .int (bI z)), (3, .int v)]) hl [0, 1, 2, 3, 4] rfl
      rw [mrg_s (cM M u z v) M i (by rw [mrg_at]; exact (if_neg (by rw [c18]; decide)).symm)] at hP
      exact ih ls H locs hlt hl hP hS
set_option maxHeartbeats 4000000 in
set_option maxRecDepth 100000 in
theorem w_X_letAstronomersSee (l : Launch) {D : va_G} {cI cZ : ClassId} {q : Nat → Nat} {tc nc ac : Nat} {ch : Int32} {U : Nat → Int32} {Z : Nat → Bool} {B L F : Nat → Int32} {H : Heap} (hP : va_P D vwCl (wX cI cZ q tc nc ac ch U Z B L F) H) (htc : tc ≤ 8) (hnc : nc ≤ 40) (hac : ac ≤ 8) (hD0 : va_D (fun _ => True) (wX cI cZ q tc nc ac ch U Z B L F)) {u : Int32} {z : Bool} : Met l yX0_letAstronomersSee wsX0_letAstronomersSee ({ frames := 2, cells := 0, slots := 0, locals := 44 }) (va_Pc [.ref (q 0), .int u, .int (bI z)] (rd D vwCl (tyA cI cZ) H)) (va_Qi (fun r (_ : Unit) => r = nI (ct (sC B L u z ((spx (fun k => zz U Z nc k) (pw tc)).1)) ac)) (fun _ t8 => va_P D vwCl (wX cI cZ q tc nc ac ch U Z (mrg (sB B L u z ((spx (fun k => zz U Z nc k) (pw tc)).1)) B ac) (mrg (sL B L F u z ((spx (fun k => zz U Z nc k) (pw tc)).1)) L ac) F) t8.heap) (va_A (wX cI cZ q tc nc ac ch U Z B L F) H.size)) 0 0 (va_A (wX cI cZ q tc nc ac ch U Z B L F) H.size) := by
  refine Met.ofW (cc := cX0_letAstronomersSee) (maxL := 6) (ret := (some .int)) (by decide) rfl ?_
  intro p e s m args below meth c s₁ B9 hml hv
  obtain ⟨rfl, hH, hK⟩ := hv
  subst hH
  have hx := B9.exec
  have hb := B9.bytes
  have hr := B9.returns
  have hts := atoms_spec (ws := wsX0_letAstronomersSee) B9.pre
  have hown : s.vm.findClass RX0 = some m.cls := findClass_of_methodNamed B9.named
  have hlocks := B9.notSynchronized
  have hin : ∀ w ∈ u_ws RX0 TX0 10, w ∈ wsX0_letAstronomersSee := fun w h => List.mem_cons_of_mem _ (List.mem_append_right _ h)
  have hD0 := hD0.self (sz := s.heap.size)
  generalize hAe : va_A (wX cI cZ q tc nc ac ch U Z B L F) s.heap.size = A at hD0 ⊢
  have hA : ∀ q : Nat, s.heap.size ≤ q → A q := fun q h => by rw [← hAe]; exact Or.inr h
  have hS : va_S A s.heap s.heap [] := va_S.rf
  have hD := hD0
  have hl := lv_entry ([.ref (q 0), .int u, .int (bI z)]) (n := 6) (Nat.le_of_ble_eq_true rfl)
  rw [lg_entry_eq]
  generalize (lg_sl ([.ref (q 0), .int u, .int (bI z)]) ++ List.replicate (6 - (lg_sl ([.ref (q 0), .int u, .int (bI z)])).length) Slot.unset).toArray = ls at hl ⊢
  have hl : lv_has ls 6 [(0, .ref (q 0)), (1, .int u), (2, .int (bI z))] := hl
  refine lv_aload_n hx hb dX0_letAstronomersSee_0 rfl (lv_at hl 0 rfl) ?_
  refine pcV_i (As := []) (rest := []) ⟨hx, hb, hml, hown, hts⟩ (g_X_simplest l hP htc hnc hac) (cwV 0 hts gX0_letAstronomersSee_X0_simplest rfl rfl rfl hdX0_simplest ⟨Nat.le_of_ble_eq_true rfl, Nat.le_of_ble_eq_true rfl⟩) (va_recv hK hP (ci := 0) (q0 := 0) rfl rfl) hK rfl hl.1 (Nat.le_of_ble_eq_true rfl) rfl dX0_letAstronomersSee_1 ⟨Nat.le_of_ble_eq_true rfl, Nat.le_of_ble_eq_true rfl⟩ ?_
  refine lv_istore_n (lv' := [(3, .int ((spx (fun k => zz U Z nc k) (pw tc)).1)), (0, .ref (q 0)), (1, .int u), (2, .int (bI z))]) hx hb dX0_letAstronomersSee_4 rfl hl (by decide) rfl (fun ls hl => ?_)
  refine lv_iconst (v := 0) hx hb dX0_letAstronomersSee_5 (by decide) ?_
  refine lv_istore (lv' := [(4, .int 0), (3, .int ((spx (fun k => zz U Z nc k) (pw tc)).1)), (0, .ref (q 0)), (1, .int u), (2, .int (bI z))]) hx hb dX0_letAstronomersSee_6 hl (by decide) rfl (fun ls hl => ?_)
  refine lv_iconst (v := 0) hx hb dX0_letAstronomersSee_8 (by decide) ?_
  refine lv_istore (lv' := [(5, .int 0), (4, .int 0), (3, .int ((spx (fun k => zz U Z nc k) (pw tc)).1)), (0, .ref (q 0)), (1, .int u), (2, .int (bI z))]) hx hb dX0_letAstronomersSee_9 hl (by decide) rfl (fun ls hl => ?_)
  refine w_loopH (N := ac) (T := fun i => [(5, .int (nI i)), (4, .int (nI (ct (sC B L u z ((spx (fun k => zz U Z nc k) (pw tc)).1)) i))), (3, .int ((spx (fun k => zz U Z nc k) (pw tc)).1)), (0, .ref (q 0)), (1, .int u), (2, .int (bI z))]) (w := fun i => wX cI cZ q tc nc ac ch U Z (mrg (sB B L u z ((spx (fun k => zz U Z nc k) (pw tc)).1)) B i) (mrg (sL B L F u z ((spx (fun k => zz U Z nc k) (pw tc)).1)) L i) F) 0 (Nat.zero_le _) (lv_sub hl [0, 1, 2, 3, 4, 5] rfl) (D := D) (cl := vwCl) hP hS (fun i ls H locs hi hi0 hl hP hS ih => ?_)
  have hP : va_P D vwCl (wX cI cZ q tc nc ac ch U Z (mrg (sB B L u z ((spx (fun k => zz U Z nc k) (pw tc)).1)) B i) (mrg (sL B L F u z ((spx (fun k => zz U Z nc k) (pw tc)).1)) L i) F) H := hP
  have hD : va_D A (wX cI cZ q tc nc ac ch U Z (mrg (sB B L u z ((spx (fun k => zz U Z nc k) (pw tc)).1)) B i) (mrg (sL B L F u z ((spx (fun k => zz U Z nc k) (pw tc)).1)) L i) F) := va_D_re hD0 rfl
  have hl : lv_has ls 6 [(5, .int (nI i)), (4, .int (nI (ct (sC B L u z ((spx (fun k => zz U Z nc k) (pw tc)).1)) i))), (3, .int ((spx (fun k => zz U Z nc k) (pw tc)).1)), (0, .ref (q 0)), (1, .int u), (2, .int (bI z))] := hl
  refine lv_iload hx hb dX0_letAstronomersSee_11 (lv_at hl 0 rfl) ?_
  refine lv_aload_n hx hb dX0_letAstronomersSee_13 rfl (lv_at hl 3 rfl) ?_
  refine va_get (D := D) (ci := 0) (v := .int (nI ac)) (C := RX0) (T := TX0) (N := 10) hx hb hts hin hown hK hP 0 rfl rfl 5 (by decide) (hts (.fieldLink RX0 27 "SmudgedStar" "astronomerCount" "I") (List.mem_of_getElem? (i := 1) rfl)) (fun _ h9 => h9) rfl dX0_letAstronomersSee_14 ?_
  refine lv_icmp_ge (tgt := 83) hx hb dX0_letAstronomersSee_17 (by decide) (fun c17 => ?_) (fun c17 => ?_)
  · skip
    have hie : i = ac := gd_ge_t (by omega) hi c17
    rw [hie] at hl
    rw [hie] at hP hD
    refine lv_iload hx hb dX0_letAstronomersSee_83 (lv_at hl 1 rfl) ?_
    have hPe : va_P D vwCl (wX cI cZ q tc nc ac ch U Z (mrg (sB B L u z ((spx (fun k => zz U Z nc k) (pw tc)).1)) B ac) (mrg (sL B L F u z ((spx (fun k => zz U Z nc k) (pw tc)).1)) L ac) F) H := hP
    exact W.iret (v := nI (ct (sC B L u z ((spx (fun k => zz U Z nc k) (pw tc)).1)) ac)) hx hb hr (fun t9 ht9 hW9 => ⟨⟨nI (ct (sC B L u z ((spx (fun k => zz U Z nc k) (pw tc)).1)) ac), (), rfl, rfl, by show va_P D vwCl _ t9.heap; rw [ht9]; exact hPe⟩, hS.F ht9⟩) hS.2.2 dX0_letAstronomersSee_85
  · skip
    have hlt : i < ac := gd_ge_f hi c17
    refine lv_aload_n hx hb dX0_letAstronomersSee_20 rfl (lv_at hl 3 rfl) ?_
    refine va_get (D := D) (ci := 0) (v := .ref (q 4)) (C := RX0) (T := TX0) (N := 10) hx hb hts hin hown hK hP 0 rfl rfl 6 (by decide) (hts (.fieldLink RX0 30 "SmudgedStar" "blamedThings" "[I") (List.mem_of_getElem? (i := 2) rfl)) (fun _ h9 => h9) rfl dX0_letAstronomersSee_21 ?_
    refine lv_iload hx hb dX0_letAstronomersSee_24 (lv_at hl 0 rfl) ?_
    refine ia_ld hx hb hK hP 4 0 rfl rfl (j := i) (by omega) (by decide) dX0_letAstronomersSee_26 ?_
    refine lv_cst (y := B i) (mrg_at _ _ _) ?_
    refine lv_iload_n hx hb dX0_letAstronomersSee_27 rfl (lv_at hl 4 rfl) ?_
    refine lv_iload_n hx hb dX0_letAstronomersSee_28 rfl (lv_at hl 5 rfl) ?_
    refine pcS_i (As := [.int (B i), .int u, .int (bI z)]) (rest := []) ⟨hx, hb, hml, hown, hts⟩ (g_X_explains l (B i) u z) (va_cwS 3 hts gX0_letAstronomersSee_X0_explains rfl rfl rfl hdX0_explains ⟨Nat.le_of_ble_eq_true rfl, Nat.le_of_ble_eq_true rfl⟩) rfl hl.1 (Nat.le_of_ble_eq_true rfl) rfl dX0_letAstronomersSee_29 ⟨Nat.le_of_ble_eq_true rfl, Nat.le_of_ble_eq_true rfl⟩ ?_
    refine lv_ifb_eq (tgt := 38) hx hb dX0_letAstronomersSee_32 (by decide) (fun c32 => ?_) (fun c32 => ?_)
    · skip
      refine lv_aload_n hx hb dX0_letAstronomersSee_38 rfl (lv_at hl 3 rfl) ?_
      refine va_get (D := D) (ci := 0) (v := .ref (q 5)) (C := RX0) (T := TX0) (N := 10) hx hb hts hin hown hK hP 0 rfl rfl 7 (by decide) (hts (.fieldLink RX0 33 "SmudgedStar" "stubbornnessLeft" "[I") (List.mem_of_getElem? (i := 3) rfl)) (fun _ h9 => h9) rfl dX0_letAstronomersSee_39 ?_
      refine lv_iload hx hb dX0_letAstronomersSee_42 (lv_at hl 0 rfl) ?_
      refine ia_ld hx hb hK hP 5 0 rfl rfl (j := i) (by omega) (by decide) dX0_letAstronomersSee_44 ?_
      refine lv_cst (y := L i) (mrg_at _ _ _) ?_
      refine lv_if_le (tgt := 62) hx hb dX0_letAstronomersSee_45 (by decide) (fun c45 => ?_) (fun c45 => ?_)
      · skip
        refine lv_iload_n hx hb dX0_letAstronomersSee_62 rfl (lv_at hl 2 rfl) ?_
        refine lv_iconst (v := (-1)) hx hb dX0_letAstronomersSee_63 (by decide) ?_
        refine lv_icmp_eq (tgt := 77) hx hb dX0_letAstronomersSee_64 (by decide) (fun c64 => ?_) (fun c64 => ?_)
        · skip
          refine lv_iinc (v := nI (i + 1)) (lv' := [(5, .int (nI (i + 1))), (4, .int (nI (ct (sC B L u z ((spx (fun k => zz U Z nc k) (pw tc)).1)) i))), (3, .int ((spx (fun k => zz U Z nc k) (pw tc)).1)), (0, .ref (q 0)), (1, .int u), (2, .int (bI z))]) hx hb dX0_letAstronomersSee_77 hl (k := 0) rfl (nI_1 _) (by decide) rfl (fun ls hl => ?_)
          refine lv_goto (tgt := 11) hx hb dX0_letAstronomersSee_80 (by decide) ?_
          have e4 : (nI (ct (sC B L u z ((spx (fun k => zz U Z nc k) (pw tc)).1)) i)) = nI (ct (sC B L u z ((spx (fun k => zz U Z nc k) (pw tc)).1)) (i + 1)) := by first | exact ct_t1 (sC_d c32 c45 c64) | exact ct_f (sC_a c32) | exact ct_f (sC_b c32 c45) | exact ct_f (sC_c c64)
          have hl := lv_sub (l' := [(5, .int (nI (i + 1))), (4, .int (nI (ct (sC B L u z ((spx (fun k => zz U Z nc k) (pw tc)).1)) i))), (3, .int ((spx (fun k => zz U Z nc k) (pw tc)).1)), (0, .ref (q 0)), (1, .int u), (2, .int (bI z))]) hl [0, 1, 2, 3, 4, 5] rfl
          rw [e4] at hl
          rw [mrg_k (sB B L u z ((spx (fun k => zz U Z nc k) (pw tc)).1)) B i (((if_neg (by rw [c32]; decide)).trans ((if_neg (fun w9 => w9 c45)).trans (if_pos c64))).symm)] at hP
          rw [mrg_k (sL B L F u z ((spx (fun k => zz U Z nc k) (pw tc)).1)) L i (((if_neg (by rw [c32]; decide)).trans ((if_neg (fun w9 => w9 c45)).trans (if_pos c64))).symm)] at hP
          exact ih ls H locs hlt hl hP hS
        · skip
          refine lv_aload_n hx hb dX0_letAstronomersSee_67 rfl (lv_at hl 3 rfl) ?_
          refine lv_iload hx hb dX0_letAstronomersSee_68 (lv_at hl 0 rfl) ?_
          refine lv_iload_n hx hb dX0_letAstronomersSee_70 rfl (lv_at hl 2 rfl) ?_
          refine wcV_v (As := [.int (nI i), .int ((spx (fun k => zz U Z nc k) (pw tc)).1)]) (rest := []) ⟨hx, hb, hml, hown, hts⟩ (w_X_letBlame l hP htc hnc hac (hD.weaken (fun _ _ _ _ => trivial)) (a := i) (v := (spx (fun k => zz U Z nc k) (pw tc)).1) (by omega : i < 8)) (cwV 2 hts gX0_letAstronomersSee_X0_letBlame rfl rfl rfl hdX0_letBlame ⟨Nat.le_of_ble_eq_true rfl, Nat.le_of_ble_eq_true rfl⟩) (va_recv hK hP (ci := 0) (q0 := 0) rfl rfl) hK hS (va_free_all hD hS hA) rfl hl.1 (Nat.le_of_ble_eq_true rfl) rfl dX0_letAstronomersSee_71 ⟨Nat.le_of_ble_eq_true rfl, Nat.le_of_ble_eq_true rfl⟩ (fun H locs hP hz1 hk1 hS => ?_)
          have hP : va_P D vwCl (wX cI cZ q tc nc ac ch U Z (upd (mrg (sB B L u z ((spx (fun k => zz U Z nc k) (pw tc)).1)) B i) i ((spx (fun k => zz U Z nc k) (pw tc)).1)) (upd (mrg (sL B L F u z ((spx (fun k => zz U Z nc k) (pw tc)).1)) L i) i (F i)) F) H := hP
          have hD : va_D A (wX cI cZ q tc nc ac ch U Z (upd (mrg (sB B L u z ((spx (fun k => zz U Z nc k) (pw tc)).1)) B i) i ((spx (fun k => zz U Z nc k) (pw tc)).1)) (upd (mrg (sL B L F u z ((spx (fun k => zz U Z nc k) (pw tc)).1)) L i) i (F i)) F) := va_D_re hD rfl
          refine lv_iinc (v := nI ((ct (sC B L u z ((spx (fun k => zz U Z nc k) (pw tc)).1)) i) + 1)) (lv' := [(4, .int (nI ((ct (sC B L u z ((spx (fun k => zz U Z nc k) (pw tc)).1)) i) + 1))), (5, .int (nI i)), (3, .int ((spx (fun k => zz U Z nc k) (pw tc)).1)), (0, .ref (q 0)), (1, .int u), (2, .int (bI z))]) hx hb dX0_letAstronomersSee_74 hl (k := 1) rfl (nI_1 _) (by decide) rfl (fun ls hl => ?_)
          refine lv_iinc (v := nI (i + 1)) (lv' := [(5, .int (nI (i + 1))), (4, .int (nI ((ct (sC B L u z ((spx (fun k => zz U Z nc k) (pw tc)).1)) i) + 1))), (3, .int ((spx (fun k => zz U Z nc k) (pw tc)).1)), (0, .ref (q 0)), (1, .int u), (2, .int (bI z))]) hx hb dX0_letAstronomersSee_77 hl (k := 1) rfl (nI_1 _) (by decide) rfl (fun ls hl => ?_)
          refine lv_goto (tgt := 11) hx hb dX0_letAstronomersSee_80 (by decide) ?_
          have e4 : (nI ((ct (sC B L u z ((spx (fun k => zz U Z nc k) (pw tc)).1)) i) + 1)) = nI (ct (sC B L u z ((spx (fun k => zz U Z nc k) (pw tc)).1)) (i + 1)) := by first | exact ct_t1 (sC_d c32 c45 c64) | exact ct_f (sC_a c32) | exact ct_f (sC_b c32 c45) | exact ct_f (sC_c c64)
          have hl := lv_sub (l' := [(5, .int (nI (i + 1))), (4, .int (nI ((ct (sC B L u z ((spx (fun k => zz U Z nc k) (pw tc)).1)) i) + 1))), (3, .int ((spx (fun k => zz U Z nc k) (pw tc)).1)), (0, .ref (q 0)), (1, .int u), (2, .int (bI z))]) hl [0, 1, 2, 3, 4, 5] rfl
          rw [e4] at hl
          rw [mrg_s (sB B L u z ((spx (fun k => zz U Z nc k) (pw tc)).1)) B i (x := (spx (fun k => zz U Z nc k) (pw tc)).1) (((if_neg (by rw [c32]; decide)).trans ((if_neg (fun w9 => w9 c45)).trans (if_neg c64))).symm)] at hP
          rw [mrg_s (sL B L F u z ((spx (fun k => zz U Z nc k) (pw tc)).1)) L i (x := F i) (((if_neg (by rw [c32]; decide)).trans ((if_neg (fun w9 => w9 c45)).trans (if_neg c64))).symm)] at hP
          exact ih ls H locs hlt hl hP hS
      · skip
        refine lv_aload_n hx hb dX0_letAstronomersSee_48 rfl (lv_at hl 3 rfl) ?_
        refine va_get (D := D) (ci := 0) (v := .ref (q 5)) (C := RX0) (T := TX0) (N := 10) hx hb hts hin hown hK hP 0 rfl rfl 7 (by decide) (hts (.fieldLink RX0 33 "SmudgedStar" "stubbornnessLeft" "[I") (List.mem_of_getElem? (i := 3) rfl)) (fun _ h9 => h9) rfl dX0_letAstronomersSee_49 ?_
        refine lv_iload hx hb dX0_letAstronomersSee_52 (lv_at hl 0 rfl) ?_
        refine lv_dup2_11 hx hb dX0_letAstronomersSee_54 rfl rfl ?_
        refine ia_ld hx hb hK hP 5 0 rfl rfl (j := i) (by omega) (by decide) dX0_letAstronomersSee_55 ?_
        refine lv_cst (y := L i) (mrg_at _ _ _) ?_
        refine lv_iconst (v := 1) hx hb dX0_letAstronomersSee_56 (by decide) ?_
        refine lv_isub hx hb dX0_letAstronomersSee_57 ?_
        refine ia_st hx hb hK hP hD hS 5 0 rfl rfl (j := i) (by omega) (by decide) dX0_letAstronomersSee_58 (fun H locs hP hS => ?_)
        have hP : va_P D vwCl (wX cI cZ q tc nc ac ch U Z (mrg (sB B L u z ((spx (fun k => zz U Z nc k) (pw tc)).1)) B i) (upd (mrg (sL B L F u z ((spx (fun k => zz U Z nc k) (pw tc)).1)) L i) i ((L i) - 1)) F) H := hP
        have hD : va_D A (wX cI cZ q tc nc ac ch U Z (mrg (sB B L u z ((spx (fun k => zz U Z nc k) (pw tc)).1)) B i) (upd (mrg (sL B L F u z ((spx (fun k => zz U Z nc k) (pw tc)).1)) L i) i ((L i) - 1)) F) := va_D_re hD rfl
        refine lv_goto (tgt := 77) hx hb dX0_letAstronomersSee_59 (by decide) ?_
        refine lv_iinc (v := nI (i + 1)) (lv' := [(5, .int (nI (i + 1))), (4, .int (nI (ct (sC B L u z ((spx (fun k => zz U Z nc k) (pw tc)).1)) i))), (3, .int ((spx (fun k => zz U Z nc k) (pw tc)).1)), (0, .ref (q 0)), (1, .int u), (2, .int (bI z))]) hx hb dX0_letAstronomersSee_77 hl (k := 0) rfl (nI_1 _) (by decide) rfl (fun ls hl => ?_)
        refine lv_goto (tgt := 11) hx hb dX0_letAstronomersSee_80 (by decide) ?_
        have e4 : (nI (ct (sC B L u z ((spx (fun k => zz U Z nc k) (pw tc)).1)) i)) = nI (ct (sC B L u z ((spx (fun k => zz U Z nc k) (pw tc)).1)) (i + 1)) := by first | exact ct_t1 (sC_d c32 c45 c64) | exact ct_f (sC_a c32) | exact ct_f (sC_b c32 c45) | exact ct_f (sC_c c64)
        have hl := lv_sub (l' := [(5, .int (nI (i + 1))), (4, .int (nI (ct (sC B L u z ((spx (fun k => zz U Z nc k) (pw tc)).1)) i))), (3, .int ((spx (fun k => zz U Z nc k) (pw tc)).1)), (0, .ref (q 0)), (1, .int u), (2, .int (bI z))]) hl [0, 1, 2, 3, 4, 5] rfl
        rw [e4] at hl
        rw [mrg_k (sB B L u z ((spx (fun k => zz U Z nc k) (pw tc)).1)) B i (((if_neg (by rw [c32]; decide)).trans (if_pos c45)).symm)] at hP
        rw [mrg_s (sL B L F u z ((spx (fun k => zz U Z nc k) (pw tc)).1)) L i (x := L i - 1) (((if_neg (by rw [c32]; decide)).trans (if_pos c45)).symm)] at hP
        exact ih ls H locs hlt hl hP hS
    · skip
      refine lv_goto (tgt := 77) hx hb dX0_letAstronomersSee_35 (by decide) ?_
      refine lv_iinc (v := nI (i + 1)) (lv' := [(5, .int (nI (i + 1))), (4, .int (nI (ct (sC B L u z ((spx (fun k => zz U Z nc k) (pw tc)).1)) i))), (3, .int ((spx (fun k => zz U Z nc k) (pw tc)).1)), (0, .ref (q 0)), (1, .int u), (2, .int (bI z))]) hx hb dX0_letAstronomersSee_77 hl (k := 0) rfl (nI_1 _) (by decide) rfl (fun ls hl => ?_)
      refine lv_goto (tgt := 11) hx hb dX0_letAstronomersSee_80 (by decide) ?_
      have e4 : (nI (ct (sC B L u z ((spx (fun k => zz U Z nc k) (pw tc)).1)) i)) = nI (ct (sC B L u z ((spx (fun k => zz U Z nc k) (pw tc)).1)) (i + 1)) := by first | exact ct_t1 (sC_d c32 c45 c64) | exact ct_f (sC_a c32) | exact ct_f (sC_b c32 c45) | exact ct_f (sC_c c64)
      have hl := lv_sub (l' := [(5, .int (nI (i + 1))), (4, .int (nI (ct (sC B L u z ((spx (fun k => zz U Z nc k) (pw tc)).1)) i))), (3, .int ((spx (fun k => zz U Z nc k) (pw tc)).1)), (0, .ref (q 0)), (1, .int u), (2, .int (bI z))]) hl [0, 1, 2, 3, 4, 5] rfl
      rw [e4] at hl
      rw [mrg_k (sB B L u z ((spx (fun k => zz U Z nc k) (pw tc)).1)) B i ((if_pos c32).symm)] at hP
      rw [mrg_k (sL B L F u z ((spx (fun k => zz U Z nc k) (pw tc)).1)) L i ((if_pos c32).symm)] at hP
      exact ih ls H locs hlt hl hP hS
set_option maxHeartbeats 4000000 in
set_option maxRecDepth 100000 in
theorem w_X_writeDown (l : Launch) {D : va_G} {cI cZ : ClassId} {q : Nat → Nat} {tc nc ac : Nat} {ch : Int32} {U : Nat → Int32} {Z : Nat → Bool} {B L F : Nat → Int32} {H : Heap} (hP : va_P D vwCl (wX cI cZ q tc nc ac ch U Z B L F) H) (htc : tc ≤ 8) (hnc : nc ≤ 40) (hac : ac ≤ 8) (hD0 : va_D (fun _ => True) (wX cI cZ q tc nc ac ch U Z B L F)) {k : Nat} {z : Bool} (hk0 : 1 ≤ k) (hk : k < pw tc) (h40 : nc < 40) : Met l yX0_writeDown wsX0_writeDown ({ frames := 3, cells := 0, slots := 0, locals := 69 }) (va_Pc [.ref (q 0), .int (nI k), .int (bI z)] (rd D vwCl (tyA cI cZ) H)) (va_Qi (fun r (_ : Unit) => r = nI (ct (sC B L (nI k) z ((spx (fun j => zz (upd U nc (nI k)) (updB Z nc z) (nc + 1) j) (pw tc)).1)) ac)) (fun _ t8 => va_P D vwCl (wX cI cZ q tc (nc + 1) ac (ch + nI (ct (sC B L (nI k) z ((spx (fun j => zz (upd U nc (nI k)) (updB Z nc z) (nc + 1) j) (pw tc)).1)) ac)) (upd U nc (nI k)) (updB Z nc z) (mrg (sB B L (nI k) z ((spx (fun j => zz (upd U nc (nI k)) (updB Z nc z) (nc + 1) j) (pw tc)).1)) B ac) (mrg (sL B L F (nI k) z ((spx (fun j => zz (upd U nc (nI k)) (updB Z nc z) (nc + 1) j) (pw tc)).1)) L ac) F) t8.heap) (va_A (wX cI cZ q tc nc ac ch U Z B L F) H.size)) 0 0 (va_A (wX cI cZ q tc nc ac ch U Z B L F) H.size) := by
  refine Met.ofW (cc := cX0_writeDown) (maxL := 4) (ret := (some .int)) (by decide) rfl ?_
  intro p e s m args below meth c s₁ B9 hml hv
  obtain ⟨rfl, hH, hK⟩ := hv
  subst hH
  have hx := B9.exec
  have hb := B9.bytes
  have hr := B9.returns
  have hts := atoms_spec (ws := wsX0_writeDown) B9.pre
  have hown : s.vm.findClass RX0 = some m.cls := findClass_of_methodNamed B9.named
  have hlocks := B9.notSynchronized
  have hin : ∀ w ∈ u_ws RX0 TX0 10, w ∈ wsX0_writeDown := fun w h => List.mem_cons_of_mem _ (List.mem_append_left _ (List.mem_append_left _ (List.mem_append_right _ h)))
  have hD0 := hD0.self (sz := s.heap.size)
  generalize hAe : va_A (wX cI cZ q tc nc ac ch U Z B L F) s.heap.size = A at hD0 ⊢
  have hA : ∀ q : Nat, s.heap.size ≤ q → A q := fun q h => by rw [← hAe]; exact Or.inr h
  have hS : va_S A s.heap s.heap [] := va_S.rf
  have hD := hD0
  have hl := lv_entry ([.ref (q 0), .int (nI k), .int (bI z)]) (n := 4) (Nat.le_of_ble_eq_true rfl)
  rw [lg_entry_eq]
  generalize (lg_sl ([.ref (q 0), .int (nI k), .int (bI z)]) ++ List.replicate (4 - (lg_sl ([.ref (q 0), .int (nI k), .int (bI z)])).length) Slot.unset).toArray = ls at hl ⊢
  have hl : lv_has ls 4 [(0, .ref (q 0)), (1, .int (nI k)), (2, .int (bI z))] := hl
  refine lv_aload_n hx hb dX0_writeDown_0 rfl (lv_at hl 0 rfl) ?_
  refine lv_iload_n hx hb dX0_writeDown_1 rfl (lv_at hl 1 rfl) ?_
  refine pcV_v (As := [.int (nI k)]) (rest := []) ⟨hx, hb, hml, hown, hts⟩ (g_X_requireUsableSet l hP htc hnc hac hk0 hk) (cwV 1 hts gX0_writeDown_X0_requireUsableSet rfl rfl rfl hdX0_requireUsableSet ⟨Nat.le_of_ble_eq_true rfl, Nat.le_of_ble_eq_true rfl⟩) (va_recv hK hP (ci := 0) (q0 := 0) rfl rfl) hK rfl hl.1 (Nat.le_of_ble_eq_true rfl) rfl dX0_writeDown_2 ⟨Nat.le_of_ble_eq_true rfl, Nat.le_of_ble_eq_true rfl⟩ ?_
  refine lv_aload_n hx hb dX0_writeDown_5 rfl (lv_at hl 0 rfl) ?_
  refine pcV_v (As := []) (rest := []) ⟨hx, hb, hml, hown, hts⟩ (g_X_requireRoomForNight l hP htc hnc hac h40) (cwV 0 hts gX0_writeDown_X0_requireRoomForNight rfl rfl rfl hdX0_requireRoomForNight ⟨Nat.le_of_ble_eq_true rfl, Nat.le_of_ble_eq_true rfl⟩) (va_recv hK hP (ci := 0) (q0 := 0) rfl rfl) hK rfl hl.1 (Nat.le_of_ble_eq_true rfl) rfl dX0_writeDown_6 ⟨Nat.le_of_ble_eq_true rfl, Nat.le_of_ble_eq_true rfl⟩ ?_
  refine lv_aload_n hx hb dX0_writeDown_9 rfl (lv_at hl 0 rfl) ?_
  refine va_get (D := D) (ci := 0) (v := .ref (q 1)) (C := RX0) (T := TX0) (N := 10) hx hb hts hin hown hK hP 0 rfl rfl 2 (by decide) (hts (.fieldLink RX0 16 "SmudgedStar" "usedThings" "[I") (List.mem_of_getElem? (i := 1) rfl)) (fun _ h9 => h9) rfl dX0_writeDown_10 ?_
  refine lv_aload_n hx hb dX0_writeDown_13 rfl (lv_at hl 0 rfl) ?_
  refine va_get (D := D) (ci := 0) (v := .int (nI nc)) (C := RX0) (T := TX0) (N := 10) hx hb hts hin hown hK hP 0 rfl rfl 1 (by decide) (hts (.fieldLink RX0 13 "SmudgedStar" "nightCount" "I") (List.mem_of_getElem? (i := 2) rfl)) (fun _ h9 => h9) rfl dX0_writeDown_14 ?_
  refine lv_iload_n hx hb dX0_writeDown_17 rfl (lv_at hl 1 rfl) ?_
  refine ia_st hx hb hK hP hD hS 1 0 rfl rfl (j := nc) (by omega) (by decide) dX0_writeDown_18 (fun H locs hP hS => ?_)
  have hP : va_P D vwCl (wXm cI cZ q tc nc ac ch (upd U nc (nI k)) Z (mis U Z nc) B L F) H := hP
  have hD : va_D A (wXm cI cZ q tc nc ac ch (upd U nc (nI k)) Z (mis U Z nc) B L F) := va_D_re hD rfl
  refine lv_aload_n hx hb dX0_writeDown_19 rfl (lv_at hl 0 rfl) ?_
  refine va_get (D := D) (ci := 0) (v := .ref (q 2)) (C := RX0) (T := TX0) (N := 10) hx hb hts hin hown hK hP 0 rfl rfl 3 (by decide) (hts (.fieldLink RX0 20 "SmudgedStar" "smudgeSeen" "[Z") (List.mem_of_getElem? (i := 3) rfl)) (fun _ h9 => h9) rfl dX0_writeDown_20 ?_
  refine lv_aload_n hx hb dX0_writeDown_23 rfl (lv_at hl 0 rfl) ?_
  refine va_get (D := D) (ci := 0) (v := .int (nI nc)) (C := RX0) (T := TX0) (N := 10) hx hb hts hin hown hK hP 0 rfl rfl 1 (by decide) (hts (.fieldLink RX0 13 "SmudgedStar" "nightCount" "I") (List.mem_of_getElem? (i := 2) rfl)) (fun _ h9 => h9) rfl dX0_writeDown_24 ?_
  refine lv_iload_n hx hb dX0_writeDown_27 rfl (lv_at hl 2 rfl) ?_
  refine za_st (f := Z) hx hb hK hP hD hS 2 1 rfl rfl (j := nc) (by omega) (by decide) dX0_writeDown_28 (fun H locs hP hS => ?_)
  have hP : va_P D vwCl (wXm cI cZ q tc nc ac ch (upd U nc (nI k)) (updB Z nc z) (mis U Z nc) B L F) H := hP
  have hD : va_D A (wXm cI cZ q tc nc ac ch (upd U nc (nI k)) (updB Z nc z) (mis U Z nc) B L F) := va_D_re hD rfl
  refine lv_aload_n hx hb dX0_writeDown_29 rfl (lv_at hl 0 rfl) ?_
  refine lv_dup hx hb dX0_writeDown_30 rfl ?_
  refine va_get (D := D) (ci := 0) (v := .int (nI nc)) (C := RX0) (T := TX0) (N := 10) hx hb hts hin hown hK hP 0 rfl rfl 1 (by decide) (hts (.fieldLink RX0 13 "SmudgedStar" "nightCount" "I") (List.mem_of_getElem? (i := 2) rfl)) (fun _ h9 => h9) rfl dX0_writeDown_31 ?_
  refine lv_iconst (v := 1) hx hb dX0_writeDown_34 (by decide) ?_
  refine lv_iadd hx hb dX0_writeDown_35 ?_
  refine lv_cst (y := nI (nc + 1)) (nI_1 nc) ?_
  refine va_put (D := D) (ci := 0) (v := .int (nI (nc + 1))) (ty := .int) (C := RX0) (T := TX0) (N := 10) hx hb hts hin tyX0 tyX0_ok nmX0 hown hK hP hD hS 0 rfl rfl 1 (by decide) (hts (.fieldLink RX0 13 "SmudgedStar" "nightCount" "I") (List.mem_of_getElem? (i := 2) rfl)) (fun _ h9 => h9) rfl (by decide +kernel) rfl rfl (Nat.le_of_ble_eq_true rfl) dX0_writeDown_36 (fun H locs hP hD hS => ?_)
  have hP : va_P D vwCl (wXm cI cZ q tc (nc + 1) ac ch (upd U nc (nI k)) (updB Z nc z) (mis U Z nc) B L F) H := hP
  have hD : va_D A (wXm cI cZ q tc (nc + 1) ac ch (upd U nc (nI k)) (updB Z nc z) (mis U Z nc) B L F) := va_D_re hD rfl
  refine lv_aload_n hx hb dX0_writeDown_39 rfl (lv_at hl 0 rfl) ?_
  refine lv_iload_n hx hb dX0_writeDown_40 rfl (lv_at hl 1 rfl) ?_
  refine lv_iload_n hx hb dX0_writeDown_41 rfl (lv_at hl 2 rfl) ?_
  refine lv_iconst (v := 1) hx hb dX0_writeDown_42 (by decide) ?_
  refine wcV_v (As := [.int (nI k), .int (bI z), .int 1]) (rest := []) ⟨hx, hb, hml, hown, hts⟩ (w_X_countMisses l hP htc (by omega) hac (hD.weaken (fun _ _ _ _ => trivial)) (u := nI k) (v := 1) (z := z)) (cwV 3 hts gX0_writeDown_X0_countMisses rfl rfl rfl hdX0_countMisses ⟨Nat.le_of_ble_eq_true rfl, Nat.le_of_ble_eq_true rfl⟩) (va_recv hK hP (ci := 0) (q0 := 0) rfl rfl) hK hS (va_free_all hD hS hA) rfl hl.1 (Nat.le_of_ble_eq_true rfl) rfl dX0_writeDown_43 ⟨Nat.le_of_ble_eq_true rfl, Nat.le_of_ble_eq_true rfl⟩ (fun H locs hP hz1 hk1 hS => ?_)
  have hP : va_P D vwCl (wXm cI cZ q tc (nc + 1) ac ch (upd U nc (nI k)) (updB Z nc z) (mrg (cM (mis U Z nc) (nI k) z 1) (mis U Z nc) 256) B L F) H := hP
  have hD : va_D A (wXm cI cZ q tc (nc + 1) ac ch (upd U nc (nI k)) (updB Z nc z) (mrg (cM (mis U Z nc) (nI k) z 1) (mis U Z nc) 256) B L F) := va_D_re hD rfl
  have hP := va_P_arr hP 3 (g := mis (upd U nc (nI k)) (updB Z nc z) (nc + 1)) rfl (fun j hj => mis_add U Z nc (nI k) z hj)
  have hP : va_P D vwCl (wX cI cZ q tc (nc + 1) ac ch (upd U nc (nI k)) (updB Z nc z) B L F) H := hP
  have hD : va_D A (wX cI cZ q tc (nc + 1) ac ch (upd U nc (nI k)) (updB Z nc z) B L F) := va_D_re hD rfl
  refine lv_aload_n hx hb dX0_writeDown_46 rfl (lv_at hl 0 rfl) ?_
  refine lv_iload_n hx hb dX0_writeDown_47 rfl (lv_at hl 1 rfl) ?_
  refine lv_iload_n hx hb dX0_writeDown_48 rfl (lv_at hl 2 rfl) ?_
  refine wcV_i (As := [.int (nI k), .int (bI z)]) (rest := []) ⟨hx, hb, hml, hown, hts⟩ (w_X_letAstronomersSee l hP htc (by omega) hac (hD.weaken (fun _ _ _ _ => trivial)) (u := nI k) (z := z)) (cwV 2 hts gX0_writeDown_X0_letAstronomersSee rfl rfl rfl hdX0_letAstronomersSee ⟨Nat.le_of_ble_eq_true rfl, Nat.le_of_ble_eq_true rfl⟩) (va_recv hK hP (ci := 0) (q0 := 0) rfl rfl) hK hS (va_free_all hD hS hA) rfl hl.1 (Nat.le_of_ble_eq_true rfl) rfl dX0_writeDown_49 ⟨Nat.le_of_ble_eq_true rfl, Nat.le_of_ble_eq_true rfl⟩ (fun H locs hP hz1 hk1 hS => ?_)
  have hP : va_P D vwCl (wX cI cZ q tc (nc + 1) ac ch (upd U nc (nI k)) (updB Z nc z) (mrg (sB B L (nI k) z ((spx (fun j => zz (upd U nc (nI k)) (updB Z nc z) (nc + 1) j) (pw tc)).1)) B ac) (mrg (sL B L F (nI k) z ((spx (fun j => zz (upd U nc (nI k)) (updB Z nc z) (nc + 1) j) (pw tc)).1)) L ac) F) H := hP
  have hD : va_D A (wX cI cZ q tc (nc + 1) ac ch (upd U nc (nI k)) (updB Z nc z) (mrg (sB B L (nI k) z ((spx (fun j => zz (upd U nc (nI k)) (updB Z nc z) (nc + 1) j) (pw tc)).1)) B ac) (mrg (sL B L F (nI k) z ((spx (fun j => zz (upd U nc (nI k)) (updB Z nc z) (nc + 1) j) (pw tc)).1)) L ac) F) := va_D_re hD rfl
  refine lv_istore_n (lv' := [(3, .int (nI (ct (sC B L (nI k) z ((spx (fun j => zz (upd U nc (nI k)) (updB Z nc z) (nc + 1) j) (pw tc)).1)) ac))), (0, .ref (q 0)), (1, .int (nI k)), (2, .int (bI z))]) hx hb dX0_writeDown_52 rfl hl (by decide) rfl (fun ls hl => ?_)
  refine lv_aload_n hx hb dX0_writeDown_53 rfl (lv_at hl 1 rfl) ?_
  refine lv_dup hx hb dX0_writeDown_54 rfl ?_
  refine va_get (D := D) (ci := 0) (v := .int ch) (C := RX0) (T := TX0) (N := 10) hx hb hts hin hown hK hP 0 rfl rfl 9 (by decide) (hts (.fieldLink RX0 39 "SmudgedStar" "mindsChanged" "I") (List.mem_of_getElem? (i := 4) rfl)) (fun _ h9 => h9) rfl dX0_writeDown_55 ?_
  refine lv_iload_n hx hb dX0_writeDown_58 rfl (lv_at hl 0 rfl) ?_
  refine lv_iadd hx hb dX0_writeDown_59 ?_
  refine va_put (D := D) (ci := 0) (v := .int (ch + (nI (ct (sC B L (nI k) z ((spx (fun j => zz (upd U nc (nI k)) (updB Z nc z) (nc + 1) j) (pw tc)).1)) ac)))) (ty := .int) (C := RX0) (T := TX0) (N := 10) hx hb hts hin tyX0 tyX0_ok nmX0 hown hK hP hD hS 0 rfl rfl 9 (by decide) (hts (.fieldLink RX0 39 "SmudgedStar" "mindsChanged" "I") (List.mem_of_getElem? (i := 4) rfl)) (fun _ h9 => h9) rfl (by decide +kernel) rfl rfl (Nat.le_of_ble_eq_true rfl) dX0_writeDown_60 (fun H locs hP hD hS => ?_)
  have hP : va_P D vwCl (wX cI cZ q tc (nc + 1) ac (ch + (nI (ct (sC B L (nI k) z ((spx (fun j => zz (upd U nc (nI k)) (updB Z nc z) (nc + 1) j) (pw tc)).1)) ac))) (upd U nc (nI k)) (updB Z nc z) (mrg (sB B L (nI k) z ((spx (fun j => zz (upd U nc (nI k)) (updB Z nc z) (nc + 1) j) (pw tc)).1)) B ac) (mrg (sL B L F (nI k) z ((spx (fun j => zz (upd U nc (nI k)) (updB Z nc z) (nc + 1) j) (pw tc)).1)) L ac) F) H := hP
  have hD : va_D A (wX cI cZ q tc (nc + 1) ac (ch + (nI (ct (sC B L (nI k) z ((spx (fun j => zz (upd U nc (nI k)) (updB Z nc z) (nc + 1) j) (pw tc)).1)) ac))) (upd U nc (nI k)) (updB Z nc z) (mrg (sB B L (nI k) z ((spx (fun j => zz (upd U nc (nI k)) (updB Z nc z) (nc + 1) j) (pw tc)).1)) B ac) (mrg (sL B L F (nI k) z ((spx (fun j => zz (upd U nc (nI k)) (updB Z nc z) (nc + 1) j) (pw tc)).1)) L ac) F) := va_D_re hD rfl
  refine lv_iload_n hx hb dX0_writeDown_63 rfl (lv_at hl 0 rfl) ?_
  have hPe : va_P D vwCl (wX cI cZ q tc (nc + 1) ac (ch + nI (ct (sC B L (nI k) z ((spx (fun j => zz (upd U nc (nI k)) (updB Z nc z) (nc + 1) j) (pw tc)).1)) ac)) (upd U nc (nI k)) (updB Z nc z) (mrg (sB B L (nI k) z ((spx (fun j => zz (upd U nc (nI k)) (updB Z nc z) (nc + 1) j) (pw tc)).1)) B ac) (mrg (sL B L F (nI k) z ((spx (fun j => zz (upd U nc (nI k)) (updB Z nc z) (nc + 1) j) (pw tc)).1)) L ac) F) H := hP
  exact W.iret (v := nI (ct (sC B L (nI k) z ((spx (fun j => zz (upd U nc (nI k)) (updB Z nc z) (nc + 1) j) (pw tc)).1)) ac)) hx hb hr (fun t9 ht9 hW9 => ⟨⟨nI (ct (sC B L (nI k) z ((spx (fun j => zz (upd U nc (nI k)) (updB Z nc z) (nc + 1) j) (pw tc)).1)) ac), (), rfl, rfl, by show va_P D vwCl _ t9.heap; rw [ht9]; exact hPe⟩, hS.F ht9⟩) hS.2.2 dX0_writeDown_64
set_option maxHeartbeats 4000000 in
set_option maxRecDepth 100000 in
theorem w_X_strike (l : Launch) {D : va_G} {cI cZ : ClassId} {q : Nat → Nat} {tc nc ac : Nat} {ch : Int32} {U : Nat → Int32} {Z : Nat → Bool} {B L F : Nat → Int32} {H : Heap} (hP : va_P D vwCl (wX cI cZ q tc nc ac ch U Z B L F) H) (htc : tc ≤ 8) (hnc : nc ≤ 40) (hac : ac ≤ 8) (hD0 : va_D (fun _ => True) (wX cI cZ q tc nc ac ch U Z B L F)) {t : Nat} (ht : t < nc) : Met l yX0_strike wsX0_strike ({ frames := 2, cells := 0, slots := 0, locals := 46 }) (va_Pc [.ref (q 0), .int (nI t)] (rd D vwCl (tyA cI cZ) H)) (va_Qi (fun r (_ : Unit) => r = nI (nc - 1)) (fun _ t8 => va_P D vwCl (wX cI cZ q tc (nc - 1) ac ch (shf U t (nc - 1)) (shf Z t (nc - 1)) B L F) t8.heap) (va_A (wX cI cZ q tc nc ac ch U Z B L F) H.size)) 0 0 (va_A (wX cI cZ q tc nc ac ch U Z B L F) H.size) := by
  refine Met.ofW (cc := cX0_strike) (maxL := 3) (ret := (some .int)) (by decide) rfl ?_
  intro p e s m args below meth c s₁ B9 hml hv
  obtain ⟨rfl, hH, hK⟩ := hv
  subst hH
  have hx := B9.exec
  have hb := B9.bytes
  have hr := B9.returns
  have hts := atoms_spec (ws := wsX0_strike) B9.pre
  have hown : s.vm.findClass RX0 = some m.cls := findClass_of_methodNamed B9.named
  have hlocks := B9.notSynchronized
  have hin : ∀ w ∈ u_ws RX0 TX0 10, w ∈ wsX0_strike := fun w h => List.mem_cons_of_mem _ (List.mem_append_left _ (List.mem_append_right _ h))
  have hD0 := hD0.self (sz := s.heap.size)
  generalize hAe : va_A (wX cI cZ q tc nc ac ch U Z B L F) s.heap.size = A at hD0 ⊢
  have hA : ∀ q : Nat, s.heap.size ≤ q → A q := fun q h => by rw [← hAe]; exact Or.inr h
  have hS : va_S A s.heap s.heap [] := va_S.rf
  have hD := hD0
  have hl := lv_entry ([.ref (q 0), .int (nI t)]) (n := 3) (Nat.le_of_ble_eq_true rfl)
  rw [lg_entry_eq]
  generalize (lg_sl ([.ref (q 0), .int (nI t)]) ++ List.replicate (3 - (lg_sl ([.ref (q 0), .int (nI t)])).length) Slot.unset).toArray = ls at hl ⊢
  have hl : lv_has ls 3 [(0, .ref (q 0)), (1, .int (nI t))] := hl
  refine lv_aload_n hx hb dX0_strike_0 rfl (lv_at hl 0 rfl) ?_
  refine lv_iload_n hx hb dX0_strike_1 rfl (lv_at hl 1 rfl) ?_
  refine pcV_v (As := [.int (nI t)]) (rest := []) ⟨hx, hb, hml, hown, hts⟩ (g_X_requireNight l hP htc hnc hac ht) (cwV 1 hts gX0_strike_X0_requireNight rfl rfl rfl hdX0_requireNight ⟨Nat.le_of_ble_eq_true rfl, Nat.le_of_ble_eq_true rfl⟩) (va_recv hK hP (ci := 0) (q0 := 0) rfl rfl) hK rfl hl.1 (Nat.le_of_ble_eq_true rfl) rfl dX0_strike_2 ⟨Nat.le_of_ble_eq_true rfl, Nat.le_of_ble_eq_true rfl⟩ ?_
  refine lv_aload_n hx hb dX0_strike_5 rfl (lv_at hl 0 rfl) ?_
  refine lv_aload_n hx hb dX0_strike_6 rfl (lv_at hl 0 rfl) ?_
  refine va_get (D := D) (ci := 0) (v := .ref (q 1)) (C := RX0) (T := TX0) (N := 10) hx hb hts hin hown hK hP 0 rfl rfl 2 (by decide) (hts (.fieldLink RX0 16 "SmudgedStar" "usedThings" "[I") (List.mem_of_getElem? (i := 1) rfl)) (fun _ h9 => h9) rfl dX0_strike_7 ?_
  refine lv_iload_n hx hb dX0_strike_10 rfl (lv_at hl 1 rfl) ?_
  refine ia_ld hx hb hK hP 1 0 rfl rfl (j := t) (by omega) (by decide) dX0_strike_11 ?_
  refine lv_aload_n hx hb dX0_strike_12 rfl (lv_at hl 0 rfl) ?_
  refine va_get (D := D) (ci := 0) (v := .ref (q 2)) (C := RX0) (T := TX0) (N := 10) hx hb hts hin hown hK hP 0 rfl rfl 3 (by decide) (hts (.fieldLink RX0 20 "SmudgedStar" "smudgeSeen" "[Z") (List.mem_of_getElem? (i := 2) rfl)) (fun _ h9 => h9) rfl dX0_strike_13 ?_
  refine lv_iload_n hx hb dX0_strike_16 rfl (lv_at hl 1 rfl) ?_
  refine za_ld (f := Z) hx hb hK hP 2 1 rfl rfl (j := t) (by omega) (by decide) dX0_strike_17 ?_
  refine lv_iconst (v := (-1)) hx hb dX0_strike_18 (by decide) ?_
  refine wcV_v (As := [.int (U t), .int (bI (Z t)), .int (-1)]) (rest := []) ⟨hx, hb, hml, hown, hts⟩ (w_X_countMisses l hP htc hnc hac (hD.weaken (fun _ _ _ _ => trivial)) (u := U t) (v := (-1)) (z := (Z t))) (cwV 3 hts gX0_strike_X0_countMisses rfl rfl rfl hdX0_countMisses ⟨Nat.le_of_ble_eq_true rfl, Nat.le_of_ble_eq_true rfl⟩) (va_recv hK hP (ci := 0) (q0 := 0) rfl rfl) hK hS (va_free_all hD hS hA) rfl hl.1 (Nat.le_of_ble_eq_true rfl) rfl dX0_strike_19 ⟨Nat.le_of_ble_eq_true rfl, Nat.le_of_ble_eq_true rfl⟩ (fun H locs hP hz1 hk1 hS => ?_)
  have hP : va_P D vwCl (wXm cI cZ q tc nc ac ch U Z (mrg (cM (mis U Z nc) (U t) (Z t) (-1)) (mis U Z nc) 256) B L F) H := hP
  have hD : va_D A (wXm cI cZ q tc nc ac ch U Z (mrg (cM (mis U Z nc) (U t) (Z t) (-1)) (mis U Z nc) 256) B L F) := va_D_re hD rfl
  refine lv_iload_n hx hb dX0_strike_22 rfl (lv_at hl 1 rfl) ?_
  refine lv_iconst (v := 1) hx hb dX0_strike_23 (by decide) ?_
  refine lv_iadd hx hb dX0_strike_24 ?_
  refine lv_cst (y := nI (t + 1)) (nI_1 t) ?_
  refine lv_istore_n (lv' := [(2, .int (nI (t + 1))), (0, .ref (q 0)), (1, .int (nI t))]) hx hb dX0_strike_25 rfl hl (by decide) rfl (fun ls hl => ?_)
  refine w_loopH (N := nc - 1) (T := fun i => [(2, .int (nI (i + 1))), (0, .ref (q 0)), (1, .int (nI t))]) (w := fun i => wXm cI cZ q tc nc ac ch (shf U t i) (shf Z t i) (mrg (cM (mis U Z nc) (U t) (Z t) (-1)) (mis U Z nc) 256) B L F) t (by omega) (lv_sub hl [0, 1, 2] rfl) (D := D) (cl := vwCl) (by rw [shf_0, shf_0]; exact hP) hS (fun i ls H locs hi hi0 hl hP hS ih => ?_)
  have hP : va_P D vwCl (wXm cI cZ q tc nc ac ch (shf U t i) (shf Z t i) (mrg (cM (mis U Z nc) (U t) (Z t) (-1)) (mis U Z nc) 256) B L F) H := hP
  have hD : va_D A (wXm cI cZ q tc nc ac ch (shf U t i) (shf Z t i) (mrg (cM (mis U Z nc) (U t) (Z t) (-1)) (mis U Z nc) 256) B L F) := va_D_re hD0 rfl
  have hl : lv_has ls 3 [(2, .int (nI (i + 1))), (0, .ref (q 0)), (1, .int (nI t))] := hl
  refine lv_iload_n hx hb dX0_strike_26 rfl (lv_at hl 0 rfl) ?_
  refine lv_aload_n hx hb dX0_strike_27 rfl (lv_at hl 1 rfl) ?_
  refine va_get (D := D) (ci := 0) (v := .int (nI nc)) (C := RX0) (T := TX0) (N := 10) hx hb hts hin hown hK hP 0 rfl rfl 1 (by decide) (hts (.fieldLink RX0 13 "SmudgedStar" "nightCount" "I") (List.mem_of_getElem? (i := 3) rfl)) (fun _ h9 => h9) rfl dX0_strike_28 ?_
  refine lv_icmp_ge (tgt := 68) hx hb dX0_strike_31 (by decide) (fun c31 => ?_) (fun c31 => ?_)
  · skip
    have hie : i = nc - 1 := gd_s_t hnc hi c31
    rw [hie] at hl
    rw [hie] at hP hD
    refine lv_aload_n hx hb dX0_strike_68 rfl (lv_at hl 1 rfl) ?_
    refine lv_dup hx hb dX0_strike_69 rfl ?_
    refine va_get (D := D) (ci := 0) (v := .int (nI nc)) (C := RX0) (T := TX0) (N := 10) hx hb hts hin hown hK hP 0 rfl rfl 1 (by decide) (hts (.fieldLink RX0 13 "SmudgedStar" "nightCount" "I") (List.mem_of_getElem? (i := 3) rfl)) (fun _ h9 => h9) rfl dX0_strike_70 ?_
    refine lv_iconst (v := 1) hx hb dX0_strike_73 (by decide) ?_
    refine lv_isub hx hb dX0_strike_74 ?_
    refine lv_cst (y := nI (nc - 1)) (pk_sub (b := 1) (by omega)) ?_
    refine va_put (D := D) (ci := 0) (v := .int (nI (nc - 1))) (ty := .int) (C := RX0) (T := TX0) (N := 10) hx hb hts hin tyX0 tyX0_ok nmX0 hown hK hP hD hS 0 rfl rfl 1 (by decide) (hts (.fieldLink RX0 13 "SmudgedStar" "nightCount" "I") (List.mem_of_getElem? (i := 3) rfl)) (fun _ h9 => h9) rfl (by decide +kernel) rfl rfl (Nat.le_of_ble_eq_true rfl) dX0_strike_75 (fun H locs hP hD hS => ?_)
    have hP : va_P D vwCl (wXm cI cZ q tc (nc - 1) ac ch (shf U t (nc - 1)) (shf Z t (nc - 1)) (mrg (cM (mis U Z nc) (U t) (Z t) (-1)) (mis U Z nc) 256) B L F) H := hP
    have hD : va_D A (wXm cI cZ q tc (nc - 1) ac ch (shf U t (nc - 1)) (shf Z t (nc - 1)) (mrg (cM (mis U Z nc) (U t) (Z t) (-1)) (mis U Z nc) 256) B L F) := va_D_re hD rfl
    refine lv_aload_n hx hb dX0_strike_78 rfl (lv_at hl 1 rfl) ?_
    refine va_get (D := D) (ci := 0) (v := .int (nI (nc - 1))) (C := RX0) (T := TX0) (N := 10) hx hb hts hin hown hK hP 0 rfl rfl 1 (by decide) (hts (.fieldLink RX0 13 "SmudgedStar" "nightCount" "I") (List.mem_of_getElem? (i := 3) rfl)) (fun _ h9 => h9) rfl dX0_strike_79 ?_
    have hP := va_P_arr hP 3 (g := mis (shf U t (nc - 1)) (shf Z t (nc - 1)) (nc - 1)) rfl (fun j hj => mis_del U Z ht hj)
    have hPe : va_P D vwCl (wX cI cZ q tc (nc - 1) ac ch (shf U t (nc - 1)) (shf Z t (nc - 1)) B L F) H := hP
    exact W.iret (v := nI (nc - 1)) hx hb hr (fun t9 ht9 hW9 => ⟨⟨nI (nc - 1), (), rfl, rfl, by show va_P D vwCl _ t9.heap; rw [ht9]; exact hPe⟩, hS.F ht9⟩) hS.2.2 dX0_strike_82
  · skip
    have hlt : i < nc - 1 := gd_s_f hnc hi c31
    refine lv_aload_n hx hb dX0_strike_34 rfl (lv_at hl 1 rfl) ?_
    refine va_get (D := D) (ci := 0) (v := .ref (q 1)) (C := RX0) (T := TX0) (N := 10) hx hb hts hin hown hK hP 0 rfl rfl 2 (by decide) (hts (.fieldLink RX0 16 "SmudgedStar" "usedThings" "[I") (List.mem_of_getElem? (i := 1) rfl)) (fun _ h9 => h9) rfl dX0_strike_35 ?_
    refine lv_iload_n hx hb dX0_strike_38 rfl (lv_at hl 0 rfl) ?_
    refine lv_iconst (v := 1) hx hb dX0_strike_39 (by decide) ?_
    refine lv_isub hx hb dX0_strike_40 ?_
    refine lv_cst (y := nI i) (nI_pred i) ?_
    refine lv_aload_n hx hb dX0_strike_41 rfl (lv_at hl 1 rfl) ?_
    refine va_get (D := D) (ci := 0) (v := .ref (q 1)) (C := RX0) (T := TX0) (N := 10) hx hb hts hin hown hK hP 0 rfl rfl 2 (by decide) (hts (.fieldLink RX0 16 "SmudgedStar" "usedThings" "[I") (List.mem_of_getElem? (i := 1) rfl)) (fun _ h9 => h9) rfl dX0_strike_42 ?_
    refine lv_iload_n hx hb dX0_strike_45 rfl (lv_at hl 0 rfl) ?_
    refine ia_ld hx hb hK hP 1 0 rfl rfl (j := (i + 1)) (by omega) (by decide) dX0_strike_46 ?_
    refine lv_cst (y := U (i + 1)) (shf_at _ _ _) ?_
    refine ia_st hx hb hK hP hD hS 1 0 rfl rfl (j := i) (by omega) (by decide) dX0_strike_47 (fun H locs hP hS => ?_)
    have hP : va_P D vwCl (wXm cI cZ q tc nc ac ch (upd (shf U t i) i (U (i + 1))) (shf Z t i) (mrg (cM (mis U Z nc) (U t) (Z t) (-1)) (mis U Z nc) 256) B L F) H := hP
    have hD : va_D A (wXm cI cZ q tc nc ac ch (upd (shf U t i) i (U (i + 1))) (shf Z t i) (mrg (cM (mis U Z nc) (U t) (Z t) (-1)) (mis U Z nc) 256) B L F) := va_D_re hD rfl
    refine lv_aload_n hx hb dX0_strike_48 rfl (lv_at hl 1 rfl) ?_
    refine va_get (D := D) (ci := 0) (v := .ref (q 2)) (C := RX0) (T := TX0) (N := 10) hx hb hts hin hown hK hP 0 rfl rfl 3 (by decide) (hts (.fieldLink RX0 20 "SmudgedStar" "smudgeSeen" "[Z") (List.mem_of_getElem? (i := 2) rfl)) (fun _ h9 => h9) rfl dX0_strike_49 ?_
    refine lv_iload_n hx hb dX0_strike_52 rfl (lv_at hl 0 rfl) ?_
    refine lv_iconst (v := 1) hx hb dX0_strike_53 (by decide) ?_
    refine lv_isub hx hb dX0_strike_54 ?_
    refine lv_cst (y := nI i) (nI_pred i) ?_
    refine lv_aload_n hx hb dX0_strike_55 rfl (lv_at hl 1 rfl) ?_
    refine va_get (D := D) (ci := 0) (v := .ref (q 2)) (C := RX0) (T := TX0) (N := 10) hx hb hts hin hown hK hP 0 rfl rfl 3 (by decide) (hts (.fieldLink RX0 20 "SmudgedStar" "smudgeSeen" "[Z") (List.mem_of_getElem? (i := 2) rfl)) (fun _ h9 => h9) rfl dX0_strike_56 ?_
    refine lv_iload_n hx hb dX0_strike_59 rfl (lv_at hl 0 rfl) ?_
    refine za_ld (f := shf Z t i) hx hb hK hP 2 1 rfl rfl (j := (i + 1)) (by omega) (by decide) dX0_strike_60 ?_
    refine lv_cst (y := bI (Z (i + 1))) (congrArg bI (shf_at _ _ _)) ?_
    refine za_st (f := shf Z t i) hx hb hK hP hD hS 2 1 rfl rfl (j := i) (by omega) (by decide) dX0_strike_61 (fun H locs hP hS => ?_)
    have hP : va_P D vwCl (wXm cI cZ q tc nc ac ch (upd (shf U t i) i (U (i + 1))) (updB (shf Z t i) i (Z (i + 1))) (mrg (cM (mis U Z nc) (U t) (Z t) (-1)) (mis U Z nc) 256) B L F) H := hP
    have hD : va_D A (wXm cI cZ q tc nc ac ch (upd (shf U t i) i (U (i + 1))) (updB (shf Z t i) i (Z (i + 1))) (mrg (cM (mis U Z nc) (U t) (Z t) (-1)) (mis U Z nc) 256) B L F) := va_D_re hD rfl
    refine lv_iinc (v := nI ((i + 1) + 1)) (lv' := [(2, .int (nI ((i + 1) + 1))), (0, .ref (q 0)), (1, .int (nI t))]) hx hb dX0_strike_62 hl (k := 0) rfl (nI_1 _) (by decide) rfl (fun ls hl => ?_)
    refine lv_goto (tgt := 26) hx hb dX0_strike_65 (by decide) ?_
    have hl := lv_sub (l' := [(2, .int (nI ((i + 1) + 1))), (0, .ref (q 0)), (1, .int (nI t))]) hl [0, 1, 2] rfl
    rw [shf_s U (g := t) (i := i) hi0 rfl, shfB_s Z (g := t) (i := i) hi0 rfl] at hP
    exact ih ls H locs hlt hl hP hS
