/-! ===== the law's wrappers: a good call, a refused one ===== -/
set_option maxHeartbeats 4000000 in
set_option maxRecDepth 100000 in
theorem w_L_addThing (l : Launch) {D : va_G} {cI cZ cJ : ClassId} {q : Nat → Nat} {o : Nat} {f : Nat → Int64} {tc nc ac : Nat} {ch : Int32} {U : Nat → Int32} {Z : Nat → Bool} {B L F : Nat → Int32} {H : Heap} (hP : va_P D vwCl (wX cI cZ q tc nc ac ch U Z B L F ++ [(o, .inl (cJ, 1, .inr (.inl f)))]) H) (htc : tc ≤ 8) (hnc : nc ≤ 40) (hac : ac ≤ 8) (hD0 : va_D (fun _ => True) (wX cI cZ q tc nc ac ch U Z B L F ++ [(o, .inl (cJ, 1, .inr (.inl f)))])) (h8 : tc < 8) : Met l yL_addThing wsL_addThing ({ frames := 1, cells := 0, slots := 0, locals := 21 }) (va_Pc [.ref (q 0), .ref o] (rd D vwCl (tyA cI cZ ++ [(cJ, .long)]) H)) (va_Qi (fun r (_ : Unit) => r = 0) (fun _ t8 => va_P D vwCl (wX cI cZ q (tc + 1) nc ac ch U Z B L F ++ [(o, .inl (cJ, 1, .inr (.inl (vp_updL f 0 ((nI tc).toInt64)))))]) t8.heap) (va_A (wX cI cZ q tc nc ac ch U Z B L F ++ [(o, .inl (cJ, 1, .inr (.inl f)))]) H.size)) 0 0 (va_A (wX cI cZ q tc nc ac ch U Z B L F ++ [(o, .inl (cJ, 1, .inr (.inl f)))]) H.size) := by
  refine met_ofWH (cc := cL_addThing) (maxL := 3) (ret := (some .int)) (hh := [(0, 8, 11, 13)]) (by decide) rfl ?_
  intro p e s m args below meth c s₁ B9 hml hv
  obtain ⟨rfl, hH, hK⟩ := hv
  subst hH
  have hx := B9.exec
  have hb := B9.bytes
  have hr := B9.returns
  have hts := atoms_spec (ws := wsL_addThing) B9.pre
  have hown : s.vm.findClass RL = some m.cls := findClass_of_methodNamed B9.named
  have hK2 : va_K D vwCl (tyA cI cZ) s := hK.sub [0, 1] rfl
  have hD0 := hD0.self (sz := s.heap.size)
  generalize hAe : va_A (wX cI cZ q tc nc ac ch U Z B L F ++ [(o, .inl (cJ, 1, .inr (.inl f)))]) s.heap.size = A at hD0 ⊢
  have hA : ∀ q : Nat, s.heap.size ≤ q → A q := fun q h => by rw [← hAe]; exact Or.inr h
  have hS : va_S A s.heap s.heap [] := va_S.rf
  have hD := hD0
  have hl := lv_entry ([.ref (q 0), .ref o]) (n := 3) (Nat.le_of_ble_eq_true rfl)
  rw [lg_entry_eq]
  generalize (lg_sl ([.ref (q 0), .ref o]) ++ List.replicate (3 - (lg_sl ([.ref (q 0), .ref o])).length) Slot.unset).toArray = ls at hl ⊢
  have hl : lv_has ls 3 [(0, .ref (q 0)), (1, .ref o)] := hl
  refine lv_aload_n hx hb dL_addThing_0 rfl (lv_at hl 1 rfl) ?_
  refine lv_iconst (v := 0) hx hb dL_addThing_1 (by decide) ?_
  refine lv_aload_n hx hb dL_addThing_2 rfl (lv_at hl 0 rfl) ?_
  refine wcV_i (As := []) (rest := [.int 0, .ref o]) ⟨hx, hb, hml, hown, hts⟩ (w_X_addThing l (P_l hP) htc hnc hac (D_l hD)  h8) (cwV 0 hts gL_addThing_X0_addThing rfl rfl rfl hdX0_addThing ⟨Nat.le_of_ble_eq_true rfl, Nat.le_of_ble_eq_true rfl⟩) (va_recv hK hP (ci := 0) (q0 := 0) rfl rfl) hK2 hS (fr_l hD hS hA) rfl hl.1 (Nat.le_of_ble_eq_true rfl) rfl dL_addThing_3 ⟨Nat.le_of_ble_eq_true rfl, Nat.le_of_ble_eq_true rfl⟩ (fun H1 locs hP1 hz1 hk1 hS => ?_)
  have hP : va_P D vwCl (wX cI cZ q (tc + 1) nc ac ch U Z B L F ++ [(o, .inl (cJ, 1, .inr (.inl f)))]) H1 := up_l hP hD hk1 hP1
  have hD : va_D A (wX cI cZ q (tc + 1) nc ac ch U Z B L F ++ [(o, .inl (cJ, 1, .inr (.inl f)))]) := va_D_re hD rfl
  refine lv_i2l (v := (nI tc).toInt64) hx hb dL_addThing_6 rfl ?_
  refine ll_st hx hb hK hP hD hS 7 2 rfl rfl dL_addThing_7 (fun H locs hP hS => ?_)
  refine lv_goto (tgt := 14) hx hb dL_addThing_8 (by decide) ?_
  have hP : va_P D vwCl (wX cI cZ q (tc + 1) nc ac ch U Z B L F ++ [(o, .inl (cJ, 1, .inr (.inl (vp_updL f 0 ((nI tc).toInt64)))))]) H := hP
  refine lv_iconst (v := 0) hx hb dL_addThing_14 (by decide) ?_
  exact W.iret (v := 0) hx hb hr (fun t9 ht9 hW9 => ⟨⟨0, (), rfl, rfl, by show va_P D vwCl _ t9.heap; rw [ht9]; exact hP⟩, hS.F ht9⟩) hS.2.2 dL_addThing_15
set_option maxHeartbeats 4000000 in
set_option maxRecDepth 100000 in
theorem wx_L_addThing (l : Launch) (hl0 : l.stackTraces = false) {D : va_G} {cI cZ cJ : ClassId} {q : Nat → Nat} {o : Nat} {f : Nat → Int64} {tc nc ac : Nat} {ch : Int32} {U : Nat → Int32} {Z : Nat → Bool} {B L F : Nat → Int32} {H : Heap} (hP : va_P D vwCl (wX cI cZ q tc nc ac ch U Z B L F ++ [(o, .inl (cJ, 1, .inr (.inl f)))]) H) (htc : tc ≤ 8) (hnc : nc ≤ 40) (hac : ac ≤ 8) (h8 : tc = 8) : Met l yL_addThing wsL_addThing ({ frames := 7, cells := 1, slots := 6, locals := 111 }) (va_Pc [.ref (q 0), .ref o] (rdx D vwCl (tyA cI cZ ++ [(cJ, .long)]) H)) (va_Qi (fun r (_ : Unit) => r = 1) (fun _ _ => True) (fun _ => False)) 1 6 (fun _ => False) := by
  refine met_ofWH (cc := cL_addThing) (maxL := 3) (ret := (some .int)) (hh := [(0, 8, 11, 13)]) (by decide) rfl ?_
  intro p e s m args below meth c s₁ B9 hml hv
  obtain ⟨rfl, hH, hK, hE⟩ := hv
  subst hH
  have hx := B9.exec
  have hb := B9.bytes
  have hr := B9.returns
  have hts := atoms_spec (ws := wsL_addThing) B9.pre
  have hown : s.vm.findClass RL = some m.cls := findClass_of_methodNamed B9.named
  have hK2 : va_K D vwCl (tyA cI cZ) s := hK.sub [0, 1] rfl
  have htb := vx_table (x := yL_addThing) B9 (hts (.codeWith yL_addThing cL_addThing 3 (some .int) [(0, 8, 11, 13)]) List.mem_cons_self)
  have hl := lv_entry ([.ref (q 0), .ref o]) (n := 3) (Nat.le_of_ble_eq_true rfl)
  rw [lg_entry_eq]
  generalize (lg_sl ([.ref (q 0), .ref o]) ++ List.replicate (3 - (lg_sl ([.ref (q 0), .ref o])).length) Slot.unset).toArray = ls at hl ⊢
  have hl : lv_has ls 3 [(0, .ref (q 0)), (1, .ref o)] := hl
  refine lv_aload_n hx hb dL_addThing_0 rfl (lv_at hl 1 rfl) ?_
  refine lv_iconst (v := 0) hx hb dL_addThing_1 (by decide) ?_
  refine lv_aload_n hx hb dL_addThing_2 rfl (lv_at hl 0 rfl) ?_
  refine bcV (E0 := EIS) (As := []) (rest := [.int 0, .ref o]) ⟨hx, hb, hml, hown, hts⟩ (b_X_addThing l hl0 (P_l hP) htc hnc hac  h8) (cwV 0 hts gL_addThing_X0_addThing rfl rfl rfl hdX0_addThing ⟨Nat.le_of_ble_eq_true rfl, Nat.le_of_ble_eq_true rfl⟩) (va_recv hK hP (ci := 0) (q0 := 0) rfl rfl) hK2 hE rfl hl.1 (Nat.le_of_ble_eq_true rfl) rfl dL_addThing_3 ⟨Nat.le_of_ble_eq_true rfl, Nat.le_of_ble_eq_true rfl⟩ (fun ce q9 H1 hz hk hce hvn hcl => ?_)
  refine vx_catch (own := RL) (name := EIS) hown [] ⟨0, 8, 11, 13⟩ [] htb (fun z hz => absurd hz List.not_mem_nil) (by decide) (by decide) (hts (.classLink RL 13 EIS) (List.mem_of_getElem? (i := 1) rfl)) (xE_cast xc_EIS hE) hce hvn hcl ?_
  refine lv_astore_n (lv' := [(2, .ref q9), (0, .ref (q 0)), (1, .ref o)]) hx hb dL_addThing_11 rfl hl (by decide) rfl (fun ls hl => ?_)
  refine lv_iconst (v := 1) hx hb dL_addThing_12 (by decide) ?_
  exact W.iret (v := 1) hx hb hr (fun t9 ht9 hW9 => ⟨⟨1, (), rfl, rfl, trivial⟩, by rw [ht9]; exact hz, fun q h1 _ => by rw [ht9]; exact hk q h1⟩) (fun _ h => absurd h List.not_mem_nil) dL_addThing_13
set_option maxHeartbeats 4000000 in
set_option maxRecDepth 100000 in
theorem w_L_addAstronomer (l : Launch) {D : va_G} {cI cZ cJ : ClassId} {q : Nat → Nat} {o : Nat} {f : Nat → Int64} {tc nc ac : Nat} {ch : Int32} {U : Nat → Int32} {Z : Nat → Bool} {B L F : Nat → Int32} {H : Heap} (hP : va_P D vwCl (wX cI cZ q tc nc ac ch U Z B L F ++ [(o, .inl (cJ, 1, .inr (.inl f)))]) H) (htc : tc ≤ 8) (hnc : nc ≤ 40) (hac : ac ≤ 8) (hD0 : va_D (fun _ => True) (wX cI cZ q tc nc ac ch U Z B L F ++ [(o, .inl (cJ, 1, .inr (.inl f)))])) {v : Int32} (hv0 : ¬ v < 0) (hv5 : v ≤ 5) (h8 : ac < 8) : Met l yL_addAstronomer wsL_addAstronomer ({ frames := 2, cells := 0, slots := 0, locals := 44 }) (va_Pc [.ref (q 0), .int v, .ref o] (rd D vwCl (tyA cI cZ ++ [(cJ, .long)]) H)) (va_Qi (fun r (_ : Unit) => r = 0) (fun _ t8 => va_P D vwCl (wX cI cZ q tc nc (ac + 1) ch U Z (upd B ac 0) (upd L ac (upd F ac v ac)) (upd F ac v) ++ [(o, .inl (cJ, 1, .inr (.inl (vp_updL f 0 ((nI ac).toInt64)))))]) t8.heap) (va_A (wX cI cZ q tc nc ac ch U Z B L F ++ [(o, .inl (cJ, 1, .inr (.inl f)))]) H.size)) 0 0 (va_A (wX cI cZ q tc nc ac ch U Z B L F ++ [(o, .inl (cJ, 1, .inr (.inl f)))]) H.size) := by
  refine met_ofWH (cc := cL_addAstronomer) (maxL := 4) (ret := (some .int)) (hh := [(0, 9, 12, 19), (0, 9, 15, 13)]) (by decide) rfl ?_
  intro p e s m args below meth c s₁ B9 hml hv
  obtain ⟨rfl, hH, hK⟩ := hv
  subst hH
  have hx := B9.exec
  have hb := B9.bytes
  have hr := B9.returns
  have hts := atoms_spec (ws := wsL_addAstronomer) B9.pre
  have hown : s.vm.findClass RL = some m.cls := findClass_of_methodNamed B9.named
  have hK2 : va_K D vwCl (tyA cI cZ) s := hK.sub [0, 1] rfl
  have hD0 := hD0.self (sz := s.heap.size)
  generalize hAe : va_A (wX cI cZ q tc nc ac ch U Z B L F ++ [(o, .inl (cJ, 1, .inr (.inl f)))]) s.heap.size = A at hD0 ⊢
  have hA : ∀ q : Nat, s.heap.size ≤ q → A q := fun q h => by rw [← hAe]; exact Or.inr h
  have hS : va_S A s.heap s.heap [] := va_S.rf
  have hD := hD0
  have hl := lv_entry ([.ref (q 0), .int v, .ref o]) (n := 4) (Nat.le_of_ble_eq_true rfl)
  rw [lg_entry_eq]
  generalize (lg_sl ([.ref (q 0), .int v, .ref o]) ++ List.replicate (4 - (lg_sl ([.ref (q 0), .int v, .ref o])).length) Slot.unset).toArray = ls at hl ⊢
  have hl : lv_has ls 4 [(0, .ref (q 0)), (1, .int v), (2, .ref o)] := hl
  refine lv_aload_n hx hb dL_addAstronomer_0 rfl (lv_at hl 2 rfl) ?_
  refine lv_iconst (v := 0) hx hb dL_addAstronomer_1 (by decide) ?_
  refine lv_aload_n hx hb dL_addAstronomer_2 rfl (lv_at hl 0 rfl) ?_
  refine lv_iload_n hx hb dL_addAstronomer_3 rfl (lv_at hl 1 rfl) ?_
  refine wcV_i (As := [.int v]) (rest := [.int 0, .ref o]) ⟨hx, hb, hml, hown, hts⟩ (w_X_addAstronomer l (P_l hP) htc hnc hac (D_l hD) (v := v) hv0 hv5 h8) (cwV 1 hts gL_addAstronomer_X0_addAstronomer rfl rfl rfl hdX0_addAstronomer ⟨Nat.le_of_ble_eq_true rfl, Nat.le_of_ble_eq_true rfl⟩) (va_recv hK hP (ci := 0) (q0 := 0) rfl rfl) hK2 hS (fr_l hD hS hA) rfl hl.1 (Nat.le_of_ble_eq_true rfl) rfl dL_addAstronomer_4 ⟨Nat.le_of_ble_eq_true rfl, Nat.le_of_ble_eq_true rfl⟩ (fun H1 locs hP1 hz1 hk1 hS => ?_)
  have hP : va_P D vwCl (wX cI cZ q tc nc (ac + 1) ch U Z (upd B ac 0) (upd L ac (upd F ac v ac)) (upd F ac v) ++ [(o, .inl (cJ, 1, .inr (.inl f)))]) H1 := up_l hP hD hk1 hP1
  have hD : va_D A (wX cI cZ q tc nc (ac + 1) ch U Z (upd B ac 0) (upd L ac (upd F ac v ac)) (upd F ac v) ++ [(o, .inl (cJ, 1, .inr (.inl f)))]) := va_D_re hD rfl
  refine lv_i2l (v := (nI ac).toInt64) hx hb dL_addAstronomer_7 rfl ?_
  refine ll_st hx hb hK hP hD hS 7 2 rfl rfl dL_addAstronomer_8 (fun H locs hP hS => ?_)
  refine lv_goto (tgt := 18) hx hb dL_addAstronomer_9 (by decide) ?_
  have hP : va_P D vwCl (wX cI cZ q tc nc (ac + 1) ch U Z (upd B ac 0) (upd L ac (upd F ac v ac)) (upd F ac v) ++ [(o, .inl (cJ, 1, .inr (.inl (vp_updL f 0 ((nI ac).toInt64)))))]) H := hP
  refine lv_iconst (v := 0) hx hb dL_addAstronomer_18 (by decide) ?_
  exact W.iret (v := 0) hx hb hr (fun t9 ht9 hW9 => ⟨⟨0, (), rfl, rfl, by show va_P D vwCl _ t9.heap; rw [ht9]; exact hP⟩, hS.F ht9⟩) hS.2.2 dL_addAstronomer_19
set_option maxHeartbeats 4000000 in
set_option maxRecDepth 100000 in
theorem wx_L_addAstronomer (l : Launch) (hl0 : l.stackTraces = false) {D : va_G} {cI cZ cJ : ClassId} {q : Nat → Nat} {o : Nat} {f : Nat → Int64} {tc nc ac : Nat} {ch : Int32} {U : Nat → Int32} {Z : Nat → Bool} {B L F : Nat → Int32} {H : Heap} (hP : va_P D vwCl (wX cI cZ q tc nc ac ch U Z B L F ++ [(o, .inl (cJ, 1, .inr (.inl f)))]) H) (htc : tc ≤ 8) (hnc : nc ≤ 40) (hac : ac ≤ 8) {v : Int32} (hv : v < 0 ∨ 5 < v) : Met l yL_addAstronomer wsL_addAstronomer ({ frames := 7, cells := 1, slots := 6, locals := 112 }) (va_Pc [.ref (q 0), .int v, .ref o] (rdx D vwCl (tyA cI cZ ++ [(cJ, .long)]) H)) (va_Qi (fun r (_ : Unit) => r = 1) (fun _ _ => True) (fun _ => False)) 1 6 (fun _ => False) := by
  refine met_ofWH (cc := cL_addAstronomer) (maxL := 4) (ret := (some .int)) (hh := [(0, 9, 12, 19), (0, 9, 15, 13)]) (by decide) rfl ?_
  intro p e s m args below meth c s₁ B9 hml hv
  obtain ⟨rfl, hH, hK, hE⟩ := hv
  subst hH
  have hx := B9.exec
  have hb := B9.bytes
  have hr := B9.returns
  have hts := atoms_spec (ws := wsL_addAstronomer) B9.pre
  have hown : s.vm.findClass RL = some m.cls := findClass_of_methodNamed B9.named
  have hK2 : va_K D vwCl (tyA cI cZ) s := hK.sub [0, 1] rfl
  have htb := vx_table (x := yL_addAstronomer) B9 (hts (.codeWith yL_addAstronomer cL_addAstronomer 4 (some .int) [(0, 9, 12, 19), (0, 9, 15, 13)]) List.mem_cons_self)
  have hl := lv_entry ([.ref (q 0), .int v, .ref o]) (n := 4) (Nat.le_of_ble_eq_true rfl)
  rw [lg_entry_eq]
  generalize (lg_sl ([.ref (q 0), .int v, .ref o]) ++ List.replicate (4 - (lg_sl ([.ref (q 0), .int v, .ref o])).length) Slot.unset).toArray = ls at hl ⊢
  have hl : lv_has ls 4 [(0, .ref (q 0)), (1, .int v), (2, .ref o)] := hl
  refine lv_aload_n hx hb dL_addAstronomer_0 rfl (lv_at hl 2 rfl) ?_
  refine lv_iconst (v := 0) hx hb dL_addAstronomer_1 (by decide) ?_
  refine lv_aload_n hx hb dL_addAstronomer_2 rfl (lv_at hl 0 rfl) ?_
  refine lv_iload_n hx hb dL_addAstronomer_3 rfl (lv_at hl 1 rfl) ?_
  refine bcV (E0 := EIA) (As := [.int v]) (rest := [.int 0, .ref o]) ⟨hx, hb, hml, hown, hts⟩ (b_X_addAstronomer l hl0 (P_l hP) htc hnc hac (v := v) hv) (cwV 1 hts gL_addAstronomer_X0_addAstronomer rfl rfl rfl hdX0_addAstronomer ⟨Nat.le_of_ble_eq_true rfl, Nat.le_of_ble_eq_true rfl⟩) (va_recv hK hP (ci := 0) (q0 := 0) rfl rfl) hK2 hE rfl hl.1 (Nat.le_of_ble_eq_true rfl) rfl dL_addAstronomer_4 ⟨Nat.le_of_ble_eq_true rfl, Nat.le_of_ble_eq_true rfl⟩ (fun ce q9 H1 hz hk hce hvn hcl => ?_)
  refine vx_catch (own := RL) (name := EIA) hown [] ⟨0, 9, 12, 19⟩ [⟨0, 9, 15, 13⟩] htb (fun z hz => absurd hz List.not_mem_nil) (by decide) (by decide) (hts (.classLink RL 19 EIA) (List.mem_of_getElem? (i := 1) rfl)) (xE_cast xc_EIA hE) hce hvn hcl ?_
  refine lv_astore_n (lv' := [(3, .ref q9), (0, .ref (q 0)), (1, .int v), (2, .ref o)]) hx hb dL_addAstronomer_12 rfl hl (by decide) rfl (fun ls hl => ?_)
  refine lv_iconst (v := 1) hx hb dL_addAstronomer_13 (by decide) ?_
  exact W.iret (v := 1) hx hb hr (fun t9 ht9 hW9 => ⟨⟨1, (), rfl, rfl, trivial⟩, by rw [ht9]; exact hz, fun q h1 _ => by rw [ht9]; exact hk q h1⟩) (fun _ h => absurd h List.not_mem_nil) dL_addAstronomer_14
set_option maxHeartbeats 4000000 in
set_option maxRecDepth 100000 in
theorem wx2_L_addAstronomer (l : Launch) (hl0 : l.stackTraces = false) {D : va_G} {cI cZ cJ : ClassId} {q : Nat → Nat} {o : Nat} {f : Nat → Int64} {tc nc ac : Nat} {ch : Int32} {U : Nat → Int32} {Z : Nat → Bool} {B L F : Nat → Int32} {H : Heap} (hP : va_P D vwCl (wX cI cZ q tc nc ac ch U Z B L F ++ [(o, .inl (cJ, 1, .inr (.inl f)))]) H) (htc : tc ≤ 8) (hnc : nc ≤ 40) (hac : ac ≤ 8) {v : Int32} (hv0 : ¬ v < 0) (hv5 : v ≤ 5) (h8 : ac = 8) : Met l yL_addAstronomer wsL_addAstronomer ({ frames := 7, cells := 1, slots := 6, locals := 112 }) (va_Pc [.ref (q 0), .int v, .ref o] (rdx D vwCl (tyA cI cZ ++ [(cJ, .long)]) H)) (va_Qi (fun r (_ : Unit) => r = 2) (fun _ _ => True) (fun _ => False)) 1 6 (fun _ => False) := by
  refine met_ofWH (cc := cL_addAstronomer) (maxL := 4) (ret := (some .int)) (hh := [(0, 9, 12, 19), (0, 9, 15, 13)]) (by decide) rfl ?_
  intro p e s m args below meth c s₁ B9 hml hv
  obtain ⟨rfl, hH, hK, hE⟩ := hv
  subst hH
  have hx := B9.exec
  have hb := B9.bytes
  have hr := B9.returns
  have hts := atoms_spec (ws := wsL_addAstronomer) B9.pre
  have hown : s.vm.findClass RL = some m.cls := findClass_of_methodNamed B9.named
  have hK2 : va_K D vwCl (tyA cI cZ) s := hK.sub [0, 1] rfl
  have htb := vx_table (x := yL_addAstronomer) B9 (hts (.codeWith yL_addAstronomer cL_addAstronomer 4 (some .int) [(0, 9, 12, 19), (0, 9, 15, 13)]) List.mem_cons_self)
  have hl := lv_entry ([.ref (q 0), .int v, .ref o]) (n := 4) (Nat.le_of_ble_eq_true rfl)
  rw [lg_entry_eq]
  generalize (lg_sl ([.ref (q 0), .int v, .ref o]) ++ List.replicate (4 - (lg_sl ([.ref (q 0), .int v, .ref o])).length) Slot.unset).toArray = ls at hl ⊢
  have hl : lv_has ls 4 [(0, .ref (q 0)), (1, .int v), (2, .ref o)] := hl
  refine lv_aload_n hx hb dL_addAstronomer_0 rfl (lv_at hl 2 rfl) ?_
  refine lv_iconst (v := 0) hx hb dL_addAstronomer_1 (by decide) ?_
  refine lv_aload_n hx hb dL_addAstronomer_2 rfl (lv_at hl 0 rfl) ?_
  refine lv_iload_n hx hb dL_addAstronomer_3 rfl (lv_at hl 1 rfl) ?_
  refine bcV (E0 := EIS) (As := [.int v]) (rest := [.int 0, .ref o]) ⟨hx, hb, hml, hown, hts⟩ (b2_X_addAstronomer l hl0 (P_l hP) htc hnc hac (v := v) hv0 hv5 h8) (cwV 1 hts gL_addAstronomer_X0_addAstronomer rfl rfl rfl hdX0_addAstronomer ⟨Nat.le_of_ble_eq_true rfl, Nat.le_of_ble_eq_true rfl⟩) (va_recv hK hP (ci := 0) (q0 := 0) rfl rfl) hK2 hE rfl hl.1 (Nat.le_of_ble_eq_true rfl) rfl dL_addAstronomer_4 ⟨Nat.le_of_ble_eq_true rfl, Nat.le_of_ble_eq_true rfl⟩ (fun ce q9 H1 hz hk hce hvn hcl => ?_)
  refine vx_catch (own := RL) (name := EIS) hown [⟨0, 9, 12, 19⟩] ⟨0, 9, 15, 13⟩ [] htb (fun z hz => by rw [List.mem_singleton.mp hz]; exact Or.inr ⟨by decide, EIA, (hts (.classLink RL 19 EIA) (List.mem_of_getElem? (i := 1) rfl)), hE.2.2.2.2.1⟩) (by decide) (by decide) (hts (.classLink RL 13 EIS) (List.mem_of_getElem? (i := 2) rfl)) (xE_cast xc_EIS hE) hce hvn hcl ?_
  refine lv_astore_n (lv' := [(3, .ref q9), (0, .ref (q 0)), (1, .int v), (2, .ref o)]) hx hb dL_addAstronomer_15 rfl hl (by decide) rfl (fun ls hl => ?_)
  refine lv_iconst (v := 2) hx hb dL_addAstronomer_16 (by decide) ?_
  exact W.iret (v := 2) hx hb hr (fun t9 ht9 hW9 => ⟨⟨2, (), rfl, rfl, trivial⟩, by rw [ht9]; exact hz, fun q h1 _ => by rw [ht9]; exact hk q h1⟩) (fun _ h => absurd h List.not_mem_nil) dL_addAstronomer_17
set_option maxHeartbeats 4000000 in
set_option maxRecDepth 100000 in
theorem w_L_blame (l : Launch) {D : va_G} {cI cZ cJ : ClassId} {q : Nat → Nat} {o : Nat} {f : Nat → Int64} {tc nc ac : Nat} {ch : Int32} {U : Nat → Int32} {Z : Nat → Bool} {B L F : Nat → Int32} {H : Heap} (hP : va_P D vwCl (wX cI cZ q tc nc ac ch U Z B L F ++ [(o, .inl (cJ, 1, .inr (.inl f)))]) H) (htc : tc ≤ 8) (hnc : nc ≤ 40) (hac : ac ≤ 8) (hD0 : va_D (fun _ => True) (wX cI cZ q tc nc ac ch U Z B L F ++ [(o, .inl (cJ, 1, .inr (.inl f)))])) {t k : Nat} (ht : t < ac) (hk : k < pw tc) : Met l yL_blame wsL_blame ({ frames := 3, cells := 0, slots := 0, locals := 64 }) (va_Pc [.ref (q 0), .int (nI t), .int (nI k), .ref o] (rd D vwCl (tyA cI cZ ++ [(cJ, .long)]) H)) (va_Qi (fun r (_ : Unit) => r = 0) (fun _ t8 => va_P D vwCl (wX cI cZ q tc nc ac ch U Z (upd B t (nI k)) (upd L t (F t)) F ++ [(o, .inl (cJ, 1, .inr (.inl (vp_updL f 0 ((B t).toInt64)))))]) t8.heap) (va_A (wX cI cZ q tc nc ac ch U Z B L F ++ [(o, .inl (cJ, 1, .inr (.inl f)))]) H.size)) 0 0 (va_A (wX cI cZ q tc nc ac ch U Z B L F ++ [(o, .inl (cJ, 1, .inr (.inl f)))]) H.size) := by
  refine met_ofWH (cc := cL_blame) (maxL := 5) (ret := (some .int)) (hh := [(0, 10, 13, 25), (0, 10, 17, 19)]) (by decide) rfl ?_
  intro p e s m args below meth c s₁ B9 hml hv
  obtain ⟨rfl, hH, hK⟩ := hv
  subst hH
  have hx := B9.exec
  have hb := B9.bytes
  have hr := B9.returns
  have hts := atoms_spec (ws := wsL_blame) B9.pre
  have hown : s.vm.findClass RL = some m.cls := findClass_of_methodNamed B9.named
  have hK2 : va_K D vwCl (tyA cI cZ) s := hK.sub [0, 1] rfl
  have hD0 := hD0.self (sz := s.heap.size)
  generalize hAe : va_A (wX cI cZ q tc nc ac ch U Z B L F ++ [(o, .inl (cJ, 1, .inr (.inl f)))]) s.heap.size = A at hD0 ⊢
  have hA : ∀ q : Nat, s.heap.size ≤ q → A q := fun q h => by rw [← hAe]; exact Or.inr h
  have hS : va_S A s.heap s.heap [] := va_S.rf
  have hD := hD0
  have hl := lv_entry ([.ref (q 0), .int (nI t), .int (nI k), .ref o]) (n := 5) (Nat.le_of_ble_eq_true rfl)
  rw [lg_entry_eq]
  generalize (lg_sl ([.ref (q 0), .int (nI t), .int (nI k), .ref o]) ++ List.replicate (5 - (lg_sl ([.ref (q 0), .int (nI t), .int (nI k), .ref o])).length) Slot.unset).toArray = ls at hl ⊢
  have hl : lv_has ls 5 [(0, .ref (q 0)), (1, .int (nI t)), (2, .int (nI k)), (3, .ref o)] := hl
  refine lv_aload_n hx hb dL_blame_0 rfl (lv_at hl 3 rfl) ?_
  refine lv_iconst (v := 0) hx hb dL_blame_1 (by decide) ?_
  refine lv_aload_n hx hb dL_blame_2 rfl (lv_at hl 0 rfl) ?_
  refine lv_iload_n hx hb dL_blame_3 rfl (lv_at hl 1 rfl) ?_
  refine lv_iload_n hx hb dL_blame_4 rfl (lv_at hl 2 rfl) ?_
  refine wcV_i (As := [.int (nI t), .int (nI k)]) (rest := [.int 0, .ref o]) ⟨hx, hb, hml, hown, hts⟩ (w_X_blame l (P_l hP) htc hnc hac (D_l hD) (t := t) (k := k) ht hk) (cwV 2 hts gL_blame_X0_blame rfl rfl rfl hdX0_blame ⟨Nat.le_of_ble_eq_true rfl, Nat.le_of_ble_eq_true rfl⟩) (va_recv hK hP (ci := 0) (q0 := 0) rfl rfl) hK2 hS (fr_l hD hS hA) rfl hl.1 (Nat.le_of_ble_eq_true rfl) rfl dL_blame_5 ⟨Nat.le_of_ble_eq_true rfl, Nat.le_of_ble_eq_true rfl⟩ (fun H1 locs hP1 hz1 hk1 hS => ?_)
  have hP : va_P D vwCl (wX cI cZ q tc nc ac ch U Z (upd B t (nI k)) (upd L t (F t)) F ++ [(o, .inl (cJ, 1, .inr (.inl f)))]) H1 := up_l hP hD hk1 hP1
  have hD : va_D A (wX cI cZ q tc nc ac ch U Z (upd B t (nI k)) (upd L t (F t)) F ++ [(o, .inl (cJ, 1, .inr (.inl f)))]) := va_D_re hD rfl
  refine lv_i2l (v := (B t).toInt64) hx hb dL_blame_8 rfl ?_
  refine ll_st hx hb hK hP hD hS 7 2 rfl rfl dL_blame_9 (fun H locs hP hS => ?_)
  refine lv_goto (tgt := 21) hx hb dL_blame_10 (by decide) ?_
  have hP : va_P D vwCl (wX cI cZ q tc nc ac ch U Z (upd B t (nI k)) (upd L t (F t)) F ++ [(o, .inl (cJ, 1, .inr (.inl (vp_updL f 0 ((B t).toInt64)))))]) H := hP
  refine lv_iconst (v := 0) hx hb dL_blame_21 (by decide) ?_
  exact W.iret (v := 0) hx hb hr (fun t9 ht9 hW9 => ⟨⟨0, (), rfl, rfl, by show va_P D vwCl _ t9.heap; rw [ht9]; exact hP⟩, hS.F ht9⟩) hS.2.2 dL_blame_22
set_option maxHeartbeats 4000000 in
set_option maxRecDepth 100000 in
theorem wx_L_blame (l : Launch) (hl0 : l.stackTraces = false) {D : va_G} {cI cZ cJ : ClassId} {q : Nat → Nat} {o : Nat} {f : Nat → Int64} {tc nc ac : Nat} {ch : Int32} {U : Nat → Int32} {Z : Nat → Bool} {B L F : Nat → Int32} {H : Heap} (hP : va_P D vwCl (wX cI cZ q tc nc ac ch U Z B L F ++ [(o, .inl (cJ, 1, .inr (.inl f)))]) H) (htc : tc ≤ 8) (hnc : nc ≤ 40) (hac : ac ≤ 8) {v v2 : Int32} (hv : v < 0 ∨ nI ac ≤ v) : Met l yL_blame wsL_blame ({ frames := 8, cells := 1, slots := 6, locals := 134 }) (va_Pc [.ref (q 0), .int v, .int v2, .ref o] (rdx D vwCl (tyA cI cZ ++ [(cJ, .long)]) H)) (va_Qi (fun r (_ : Unit) => r = 1) (fun _ _ => True) (fun _ => False)) 1 6 (fun _ => False) := by
  refine met_ofWH (cc := cL_blame) (maxL := 5) (ret := (some .int)) (hh := [(0, 10, 13, 25), (0, 10, 17, 19)]) (by decide) rfl ?_
  intro p e s m args below meth c s₁ B9 hml hv
  obtain ⟨rfl, hH, hK, hE⟩ := hv
  subst hH
  have hx := B9.exec
  have hb := B9.bytes
  have hr := B9.returns
  have hts := atoms_spec (ws := wsL_blame) B9.pre
  have hown : s.vm.findClass RL = some m.cls := findClass_of_methodNamed B9.named
  have hK2 : va_K D vwCl (tyA cI cZ) s := hK.sub [0, 1] rfl
  have htb := vx_table (x := yL_blame) B9 (hts (.codeWith yL_blame cL_blame 5 (some .int) [(0, 10, 13, 25), (0, 10, 17, 19)]) List.mem_cons_self)
  have hl := lv_entry ([.ref (q 0), .int v, .int v2, .ref o]) (n := 5) (Nat.le_of_ble_eq_true rfl)
  rw [lg_entry_eq]
  generalize (lg_sl ([.ref (q 0), .int v, .int v2, .ref o]) ++ List.replicate (5 - (lg_sl ([.ref (q 0), .int v, .int v2, .ref o])).length) Slot.unset).toArray = ls at hl ⊢
  have hl : lv_has ls 5 [(0, .ref (q 0)), (1, .int v), (2, .int v2), (3, .ref o)] := hl
  refine lv_aload_n hx hb dL_blame_0 rfl (lv_at hl 3 rfl) ?_
  refine lv_iconst (v := 0) hx hb dL_blame_1 (by decide) ?_
  refine lv_aload_n hx hb dL_blame_2 rfl (lv_at hl 0 rfl) ?_
  refine lv_iload_n hx hb dL_blame_3 rfl (lv_at hl 1 rfl) ?_
  refine lv_iload_n hx hb dL_blame_4 rfl (lv_at hl 2 rfl) ?_
  refine bcV (E0 := EIO) (As := [.int v, .int v2]) (rest := [.int 0, .ref o]) ⟨hx, hb, hml, hown, hts⟩ (b_X_blame l hl0 (P_l hP) htc hnc hac (v := v) (v2 := v2) hv) (cwV 2 hts gL_blame_X0_blame rfl rfl rfl hdX0_blame ⟨Nat.le_of_ble_eq_true rfl, Nat.le_of_ble_eq_true rfl⟩) (va_recv hK hP (ci := 0) (q0 := 0) rfl rfl) hK2 hE rfl hl.1 (Nat.le_of_ble_eq_true rfl) rfl dL_blame_5 ⟨Nat.le_of_ble_eq_true rfl, Nat.le_of_ble_eq_true rfl⟩ (fun ce q9 H1 hz hk hce hvn hcl => ?_)
  refine vx_catch (own := RL) (name := EIO) hown [] ⟨0, 10, 13, 25⟩ [⟨0, 10, 17, 19⟩] htb (fun z hz => absurd hz List.not_mem_nil) (by decide) (by decide) (hts (.classLink RL 25 EIO) (List.mem_of_getElem? (i := 1) rfl)) (xE_cast xc_EIO hE) hce hvn hcl ?_
  refine lv_astore (lv' := [(4, .ref q9), (0, .ref (q 0)), (1, .int v), (2, .int v2), (3, .ref o)]) hx hb dL_blame_13 hl (by decide) rfl (fun ls hl => ?_)
  refine lv_iconst (v := 1) hx hb dL_blame_15 (by decide) ?_
  exact W.iret (v := 1) hx hb hr (fun t9 ht9 hW9 => ⟨⟨1, (), rfl, rfl, trivial⟩, by rw [ht9]; exact hz, fun q h1 _ => by rw [ht9]; exact hk q h1⟩) (fun _ h => absurd h List.not_mem_nil) dL_blame_16
set_option maxHeartbeats 4000000 in
set_option maxRecDepth 100000 in
theorem wx2_L_blame (l : Launch) (hl0 : l.stackTraces = false) {D : va_G} {cI cZ cJ : ClassId} {q : Nat → Nat} {o : Nat} {f : Nat → Int64} {tc nc ac : Nat} {ch : Int32} {U : Nat → Int32} {Z : Nat → Bool} {B L F : Nat → Int32} {H : Heap} (hP : va_P D vwCl (wX cI cZ q tc nc ac ch U Z B L F ++ [(o, .inl (cJ, 1, .inr (.inl f)))]) H) (htc : tc ≤ 8) (hnc : nc ≤ 40) (hac : ac ≤ 8) {t : Nat} {v : Int32} (ht : t < ac) (hv : v < 0 ∨ nI (pw tc - 1) < v) : Met l yL_blame wsL_blame ({ frames := 8, cells := 1, slots := 6, locals := 134 }) (va_Pc [.ref (q 0), .int (nI t), .int v, .ref o] (rdx D vwCl (tyA cI cZ ++ [(cJ, .long)]) H)) (va_Qi (fun r (_ : Unit) => r = 2) (fun _ _ => True) (fun _ => False)) 1 6 (fun _ => False) := by
  refine met_ofWH (cc := cL_blame) (maxL := 5) (ret := (some .int)) (hh := [(0, 10, 13, 25), (0, 10, 17, 19)]) (by decide) rfl ?_
  intro p e s m args below meth c s₁ B9 hml hv
  obtain ⟨rfl, hH, hK, hE⟩ := hv
  subst hH
  have hx := B9.exec
  have hb := B9.bytes
  have hr := B9.returns
  have hts := atoms_spec (ws := wsL_blame) B9.pre
  have hown : s.vm.findClass RL = some m.cls := findClass_of_methodNamed B9.named
  have hK2 : va_K D vwCl (tyA cI cZ) s := hK.sub [0, 1] rfl
  have htb := vx_table (x := yL_blame) B9 (hts (.codeWith yL_blame cL_blame 5 (some .int) [(0, 10, 13, 25), (0, 10, 17, 19)]) List.mem_cons_self)
  have hl := lv_entry ([.ref (q 0), .int (nI t), .int v, .ref o]) (n := 5) (Nat.le_of_ble_eq_true rfl)
  rw [lg_entry_eq]
  generalize (lg_sl ([.ref (q 0), .int (nI t), .int v, .ref o]) ++ List.replicate (5 - (lg_sl ([.ref (q 0), .int (nI t), .int v, .ref o])).length) Slot.unset).toArray = ls at hl ⊢
  have hl : lv_has ls 5 [(0, .ref (q 0)), (1, .int (nI t)), (2, .int v), (3, .ref o)] := hl
  refine lv_aload_n hx hb dL_blame_0 rfl (lv_at hl 3 rfl) ?_
  refine lv_iconst (v := 0) hx hb dL_blame_1 (by decide) ?_
  refine lv_aload_n hx hb dL_blame_2 rfl (lv_at hl 0 rfl) ?_
  refine lv_iload_n hx hb dL_blame_3 rfl (lv_at hl 1 rfl) ?_
  refine lv_iload_n hx hb dL_blame_4 rfl (lv_at hl 2 rfl) ?_
  refine bcV (E0 := EIA) (As := [.int (nI t), .int v]) (rest := [.int 0, .ref o]) ⟨hx, hb, hml, hown, hts⟩ (b2_X_blame l hl0 (P_l hP) htc hnc hac (t := t) (v := v) ht hv) (cwV 2 hts gL_blame_X0_blame rfl rfl rfl hdX0_blame ⟨Nat.le_of_ble_eq_true rfl, Nat.le_of_ble_eq_true rfl⟩) (va_recv hK hP (ci := 0) (q0 := 0) rfl rfl) hK2 hE rfl hl.1 (Nat.le_of_ble_eq_true rfl) rfl dL_blame_5 ⟨Nat.le_of_ble_eq_true rfl, Nat.le_of_ble_eq_true rfl⟩ (fun ce q9 H1 hz hk hce hvn hcl => ?_)
  refine vx_catch (own := RL) (name := EIA) hown [⟨0, 10, 13, 25⟩] ⟨0, 10, 17, 19⟩ [] htb (fun z hz => by rw [List.mem_singleton.mp hz]; exact Or.inr ⟨by decide, EIO, (hts (.classLink RL 25 EIO) (List.mem_of_getElem? (i := 1) rfl)), hE.2.2.2.2.2⟩) (by decide) (by decide) (hts (.classLink RL 19 EIA) (List.mem_of_getElem? (i := 2) rfl)) (xE_cast xc_EIA hE) hce hvn hcl ?_
  refine lv_astore (lv' := [(4, .ref q9), (0, .ref (q 0)), (1, .int (nI t)), (2, .int v), (3, .ref o)]) hx hb dL_blame_17 hl (by decide) rfl (fun ls hl => ?_)
  refine lv_iconst (v := 2) hx hb dL_blame_19 (by decide) ?_
  exact W.iret (v := 2) hx hb hr (fun t9 ht9 hW9 => ⟨⟨2, (), rfl, rfl, trivial⟩, by rw [ht9]; exact hz, fun q h1 _ => by rw [ht9]; exact hk q h1⟩) (fun _ h => absurd h List.not_mem_nil) dL_blame_20
set_option maxHeartbeats 4000000 in
set_option maxRecDepth 100000 in
theorem w_L_writeDown (l : Launch) {D : va_G} {cI cZ cJ : ClassId} {q : Nat → Nat} {o : Nat} {f : Nat → Int64} {tc nc ac : Nat} {ch : Int32} {U : Nat → Int32} {Z : Nat → Bool} {B L F : Nat → Int32} {H : Heap} (hP : va_P D vwCl (wX cI cZ q tc nc ac ch U Z B L F ++ [(o, .inl (cJ, 1, .inr (.inl f)))]) H) (htc : tc ≤ 8) (hnc : nc ≤ 40) (hac : ac ≤ 8) (hD0 : va_D (fun _ => True) (wX cI cZ q tc nc ac ch U Z B L F ++ [(o, .inl (cJ, 1, .inr (.inl f)))])) {k : Nat} {z : Bool} (hk0 : 1 ≤ k) (hk : k < pw tc) (h40 : nc < 40) : Met l yL_writeDown wsL_writeDown ({ frames := 4, cells := 0, slots := 0, locals := 92 }) (va_Pc [.ref (q 0), .int (nI k), .int (bI z), .ref o] (rd D vwCl (tyA cI cZ ++ [(cJ, .long)]) H)) (va_Qi (fun r (_ : Unit) => r = 0) (fun _ t8 => va_P D vwCl (wX cI cZ q tc (nc + 1) ac (ch + nI (ct (sC B L (nI k) z ((spx (fun j => zz (upd U nc (nI k)) (updB Z nc z) (nc + 1) j) (pw tc)).1)) ac)) (upd U nc (nI k)) (updB Z nc z) (mrg (sB B L (nI k) z ((spx (fun j => zz (upd U nc (nI k)) (updB Z nc z) (nc + 1) j) (pw tc)).1)) B ac) (mrg (sL B L F (nI k) z ((spx (fun j => zz (upd U nc (nI k)) (updB Z nc z) (nc + 1) j) (pw tc)).1)) L ac) F ++ [(o, .inl (cJ, 1, .inr (.inl (vp_updL f 0 ((nI (ct (sC B L (nI k) z ((spx (fun j => zz (upd U nc (nI k)) (updB Z nc z) (nc + 1) j) (pw tc)).1)) ac)).toInt64)))))]) t8.heap) (va_A (wX cI cZ q tc nc ac ch U Z B L F ++ [(o, .inl (cJ, 1, .inr (.inl f)))]) H.size)) 0 0 (va_A (wX cI cZ q tc nc ac ch U Z B L F ++ [(o, .inl (cJ, 1, .inr (.inl f)))]) H.size) := by
  refine met_ofWH (cc := cL_writeDown) (maxL := 5) (ret := (some .int)) (hh := [(0, 10, 13, 19), (0, 10, 17, 13)]) (by decide) rfl ?_
  intro p e s m args below meth c s₁ B9 hml hv
  obtain ⟨rfl, hH, hK⟩ := hv
  subst hH
  have hx := B9.exec
  have hb := B9.bytes
  have hr := B9.returns
  have hts := atoms_spec (ws := wsL_writeDown) B9.pre
  have hown : s.vm.findClass RL = some m.cls := findClass_of_methodNamed B9.named
  have hK2 : va_K D vwCl (tyA cI cZ) s := hK.sub [0, 1] rfl
  have hD0 := hD0.self (sz := s.heap.size)
  generalize hAe : va_A (wX cI cZ q tc nc ac ch U Z B L F ++ [(o, .inl (cJ, 1, .inr (.inl f)))]) s.heap.size = A at hD0 ⊢
  have hA : ∀ q : Nat, s.heap.size ≤ q → A q := fun q h => by rw [← hAe]; exact Or.inr h
  have hS : va_S A s.heap s.heap [] := va_S.rf
  have hD := hD0
  have hl := lv_entry ([.ref (q 0), .int (nI k), .int (bI z), .ref o]) (n := 5) (Nat.le_of_ble_eq_true rfl)
  rw [lg_entry_eq]
  generalize (lg_sl ([.ref (q 0), .int (nI k), .int (bI z), .ref o]) ++ List.replicate (5 - (lg_sl ([.ref (q 0), .int (nI k), .int (bI z), .ref o])).length) Slot.unset).toArray = ls at hl ⊢
  have hl : lv_has ls 5 [(0, .ref (q 0)), (1, .int (nI k)), (2, .int (bI z)), (3, .ref o)] := hl
  refine lv_aload_n hx hb dL_writeDown_0 rfl (lv_at hl 3 rfl) ?_
  refine lv_iconst (v := 0) hx hb dL_writeDown_1 (by decide) ?_
  refine lv_aload_n hx hb dL_writeDown_2 rfl (lv_at hl 0 rfl) ?_
  refine lv_iload_n hx hb dL_writeDown_3 rfl (lv_at hl 1 rfl) ?_
  refine lv_iload_n hx hb dL_writeDown_4 rfl (lv_at hl 2 rfl) ?_
  refine wcV_i (As := [.int (nI k), .int (bI z)]) (rest := [.int 0, .ref o]) ⟨hx, hb, hml, hown, hts⟩ (w_X_writeDown l (P_l hP) htc hnc hac (D_l hD) (k := k) (z := z) hk0 hk h40) (cwV 2 hts gL_writeDown_X0_writeDown rfl rfl rfl hdX0_writeDown ⟨Nat.le_of_ble_eq_true rfl, Nat.le_of_ble_eq_true rfl⟩) (va_recv hK hP (ci := 0) (q0 := 0) rfl rfl) hK2 hS (fr_l hD hS hA) rfl hl.1 (Nat.le_of_ble_eq_true rfl) rfl dL_writeDown_5 ⟨Nat.le_of_ble_eq_true rfl, Nat.le_of_ble_eq_true rfl⟩ (fun H1 locs hP1 hz1 hk1 hS => ?_)
  have hP : va_P D vwCl (wX cI cZ q tc (nc + 1) ac (ch + nI (ct (sC B L (nI k) z ((spx (fun j => zz (upd U nc (nI k)) (updB Z nc z) (nc + 1) j) (pw tc)).1)) ac)) (upd U nc (nI k)) (updB Z nc z) (mrg (sB B L (nI k) z ((spx (fun j => zz (upd U nc (nI k)) (updB Z nc z) (nc + 1) j) (pw tc)).1)) B ac) (mrg (sL B L F (nI k) z ((spx (fun j => zz (upd U nc (nI k)) (updB Z nc z) (nc + 1) j) (pw tc)).1)) L ac) F ++ [(o, .inl (cJ, 1, .inr (.inl f)))]) H1 := up_l hP hD hk1 hP1
  have hD : va_D A (wX cI cZ q tc (nc + 1) ac (ch + nI (ct (sC B L (nI k) z ((spx (fun j => zz (upd U nc (nI k)) (updB Z nc z) (nc + 1) j) (pw tc)).1)) ac)) (upd U nc (nI k)) (updB Z nc z) (mrg (sB B L (nI k) z ((spx (fun j => zz (upd U nc (nI k)) (updB Z nc z) (nc + 1) j) (pw tc)).1)) B ac) (mrg (sL B L F (nI k) z ((spx (fun j => zz (upd U nc (nI k)) (updB Z nc z) (nc + 1) j) (pw tc)).1)) L ac) F ++ [(o, .inl (cJ, 1, .inr (.inl f)))]) := va_D_re hD rfl
  refine lv_i2l (v := (nI (ct (sC B L (nI k) z ((spx (fun j => zz (upd U nc (nI k)) (updB Z nc z) (nc + 1) j) (pw tc)).1)) ac)).toInt64) hx hb dL_writeDown_8 rfl ?_
  refine ll_st hx hb hK hP hD hS 7 2 rfl rfl dL_writeDown_9 (fun H locs hP hS => ?_)
  refine lv_goto (tgt := 21) hx hb dL_writeDown_10 (by decide) ?_
  have hP : va_P D vwCl (wX cI cZ q tc (nc + 1) ac (ch + nI (ct (sC B L (nI k) z ((spx (fun j => zz (upd U nc (nI k)) (updB Z nc z) (nc + 1) j) (pw tc)).1)) ac)) (upd U nc (nI k)) (updB Z nc z) (mrg (sB B L (nI k) z ((spx (fun j => zz (upd U nc (nI k)) (updB Z nc z) (nc + 1) j) (pw tc)).1)) B ac) (mrg (sL B L F (nI k) z ((spx (fun j => zz (upd U nc (nI k)) (updB Z nc z) (nc + 1) j) (pw tc)).1)) L ac) F ++ [(o, .inl (cJ, 1, .inr (.inl (vp_updL f 0 ((nI (ct (sC B L (nI k) z ((spx (fun j => zz (upd U nc (nI k)) (updB Z nc z) (nc + 1) j) (pw tc)).1)) ac)).toInt64)))))]) H := hP
  refine lv_iconst (v := 0) hx hb dL_writeDown_21 (by decide) ?_
  exact W.iret (v := 0) hx hb hr (fun t9 ht9 hW9 => ⟨⟨0, (), rfl, rfl, by show va_P D vwCl _ t9.heap; rw [ht9]; exact hP⟩, hS.F ht9⟩) hS.2.2 dL_writeDown_22
set_option maxHeartbeats 4000000 in
set_option maxRecDepth 100000 in
theorem wx_L_writeDown (l : Launch) (hl0 : l.stackTraces = false) {D : va_G} {cI cZ cJ : ClassId} {q : Nat → Nat} {o : Nat} {f : Nat → Int64} {tc nc ac : Nat} {ch : Int32} {U : Nat → Int32} {Z : Nat → Bool} {B L F : Nat → Int32} {H : Heap} (hP : va_P D vwCl (wX cI cZ q tc nc ac ch U Z B L F ++ [(o, .inl (cJ, 1, .inr (.inl f)))]) H) (htc : tc ≤ 8) (hnc : nc ≤ 40) (hac : ac ≤ 8) {v : Int32} {z : Bool} (hv : v < 1 ∨ nI (pw tc - 1) < v) : Met l yL_writeDown wsL_writeDown ({ frames := 8, cells := 1, slots := 6, locals := 134 }) (va_Pc [.ref (q 0), .int v, .int (bI z), .ref o] (rdx D vwCl (tyA cI cZ ++ [(cJ, .long)]) H)) (va_Qi (fun r (_ : Unit) => r = 1) (fun _ _ => True) (fun _ => False)) 1 6 (fun _ => False) := by
  refine met_ofWH (cc := cL_writeDown) (maxL := 5) (ret := (some .int)) (hh := [(0, 10, 13, 19), (0, 10, 17, 13)]) (by decide) rfl ?_
  intro p e s m args below meth c s₁ B9 hml hv
  obtain ⟨rfl, hH, hK, hE⟩ := hv
  subst hH
  have hx := B9.exec
  have hb := B9.bytes
  have hr := B9.returns
  have hts := atoms_spec (ws := wsL_writeDown) B9.pre
  have hown : s.vm.findClass RL = some m.cls := findClass_of_methodNamed B9.named
  have hK2 : va_K D vwCl (tyA cI cZ) s := hK.sub [0, 1] rfl
  have htb := vx_table (x := yL_writeDown) B9 (hts (.codeWith yL_writeDown cL_writeDown 5 (some .int) [(0, 10, 13, 19), (0, 10, 17, 13)]) List.mem_cons_self)
  have hl := lv_entry ([.ref (q 0), .int v, .int (bI z), .ref o]) (n := 5) (Nat.le_of_ble_eq_true rfl)
  rw [lg_entry_eq]
  generalize (lg_sl ([.ref (q 0), .int v, .int (bI z), .ref o]) ++ List.replicate (5 - (lg_sl ([.ref (q 0), .int v, .int (bI z), .ref o])).length) Slot.unset).toArray = ls at hl ⊢
  have hl : lv_has ls 5 [(0, .ref (q 0)), (1, .int v), (2, .int (bI z)), (3, .ref o)] := hl
  refine lv_aload_n hx hb dL_writeDown_0 rfl (lv_at hl 3 rfl) ?_
  refine lv_iconst (v := 0) hx hb dL_writeDown_1 (by decide) ?_
  refine lv_aload_n hx hb dL_writeDown_2 rfl (lv_at hl 0 rfl) ?_
  refine lv_iload_n hx hb dL_writeDown_3 rfl (lv_at hl 1 rfl) ?_
  refine lv_iload_n hx hb dL_writeDown_4 rfl (lv_at hl 2 rfl) ?_
  refine bcV (E0 := EIA) (As := [.int v, .int (bI z)]) (rest := [.int 0, .ref o]) ⟨hx, hb, hml, hown, hts⟩ (b_X_writeDown l hl0 (P_l hP) htc hnc hac (v := v) (z := z) hv) (cwV 2 hts gL_writeDown_X0_writeDown rfl rfl rfl hdX0_writeDown ⟨Nat.le_of_ble_eq_true rfl, Nat.le_of_ble_eq_true rfl⟩) (va_recv hK hP (ci := 0) (q0 := 0) rfl rfl) hK2 hE rfl hl.1 (Nat.le_of_ble_eq_true rfl) rfl dL_writeDown_5 ⟨Nat.le_of_ble_eq_true rfl, Nat.le_of_ble_eq_true rfl⟩ (fun ce q9 H1 hz hk hce hvn hcl => ?_)
  refine vx_catch (own := RL) (name := EIA) hown [] ⟨0, 10, 13, 19⟩ [⟨0, 10, 17, 13⟩] htb (fun z hz => absurd hz List.not_mem_nil) (by decide) (by decide) (hts (.classLink RL 19 EIA) (List.mem_of_getElem? (i := 1) rfl)) (xE_cast xc_EIA hE) hce hvn hcl ?_
  refine lv_astore (lv' := [(4, .ref q9), (0, .ref (q 0)), (1, .int v), (2, .int (bI z)), (3, .ref o)]) hx hb dL_writeDown_13 hl (by decide) rfl (fun ls hl => ?_)
  refine lv_iconst (v := 1) hx hb dL_writeDown_15 (by decide) ?_
  exact W.iret (v := 1) hx hb hr (fun t9 ht9 hW9 => ⟨⟨1, (), rfl, rfl, trivial⟩, by rw [ht9]; exact hz, fun q h1 _ => by rw [ht9]; exact hk q h1⟩) (fun _ h => absurd h List.not_mem_nil) dL_writeDown_16
set_option maxHeartbeats 4000000 in
set_option maxRecDepth 100000 in
theorem wx2_L_writeDown (l : Launch) (hl0 : l.stackTraces = false) {D : va_G} {cI cZ cJ : ClassId} {q : Nat → Nat} {o : Nat} {f : Nat → Int64} {tc nc ac : Nat} {ch : Int32} {U : Nat → Int32} {Z : Nat → Bool} {B L F : Nat → Int32} {H : Heap} (hP : va_P D vwCl (wX cI cZ q tc nc ac ch U Z B L F ++ [(o, .inl (cJ, 1, .inr (.inl f)))]) H) (htc : tc ≤ 8) (hnc : nc ≤ 40) (hac : ac ≤ 8) {k : Nat} {z : Bool} (hk0 : 1 ≤ k) (hk : k < pw tc) (h40 : nc = 40) : Met l yL_writeDown wsL_writeDown ({ frames := 8, cells := 1, slots := 6, locals := 134 }) (va_Pc [.ref (q 0), .int (nI k), .int (bI z), .ref o] (rdx D vwCl (tyA cI cZ ++ [(cJ, .long)]) H)) (va_Qi (fun r (_ : Unit) => r = 2) (fun _ _ => True) (fun _ => False)) 1 6 (fun _ => False) := by
  refine met_ofWH (cc := cL_writeDown) (maxL := 5) (ret := (some .int)) (hh := [(0, 10, 13, 19), (0, 10, 17, 13)]) (by decide) rfl ?_
  intro p e s m args below meth c s₁ B9 hml hv
  obtain ⟨rfl, hH, hK, hE⟩ := hv
  subst hH
  have hx := B9.exec
  have hb := B9.bytes
  have hr := B9.returns
  have hts := atoms_spec (ws := wsL_writeDown) B9.pre
  have hown : s.vm.findClass RL = some m.cls := findClass_of_methodNamed B9.named
  have hK2 : va_K D vwCl (tyA cI cZ) s := hK.sub [0, 1] rfl
  have htb := vx_table (x := yL_writeDown) B9 (hts (.codeWith yL_writeDown cL_writeDown 5 (some .int) [(0, 10, 13, 19), (0, 10, 17, 13)]) List.mem_cons_self)
  have hl := lv_entry ([.ref (q 0), .int (nI k), .int (bI z), .ref o]) (n := 5) (Nat.le_of_ble_eq_true rfl)
  rw [lg_entry_eq]
  generalize (lg_sl ([.ref (q 0), .int (nI k), .int (bI z), .ref o]) ++ List.replicate (5 - (lg_sl ([.ref (q 0), .int (nI k), .int (bI z), .ref o])).length) Slot.unset).toArray = ls at hl ⊢
  have hl : lv_has ls 5 [(0, .ref (q 0)), (1, .int (nI k)), (2, .int (bI z)), (3, .ref o)] := hl
  refine lv_aload_n hx hb dL_writeDown_0 rfl (lv_at hl 3 rfl) ?_
  refine lv_iconst (v := 0) hx hb dL_writeDown_1 (by decide) ?_
  refine lv_aload_n hx hb dL_writeDown_2 rfl (lv_at hl 0 rfl) ?_
  refine lv_iload_n hx hb dL_writeDown_3 rfl (lv_at hl 1 rfl) ?_
  refine lv_iload_n hx hb dL_writeDown_4 rfl (lv_at hl 2 rfl) ?_
  refine bcV (E0 := EIS) (As := [.int (nI k), .int (bI z)]) (rest := [.int 0, .ref o]) ⟨hx, hb, hml, hown, hts⟩ (b2_X_writeDown l hl0 (P_l hP) htc hnc hac (k := k) (z := z) hk0 hk h40) (cwV 2 hts gL_writeDown_X0_writeDown rfl rfl rfl hdX0_writeDown ⟨Nat.le_of_ble_eq_true rfl, Nat.le_of_ble_eq_true rfl⟩) (va_recv hK hP (ci := 0) (q0 := 0) rfl rfl) hK2 hE rfl hl.1 (Nat.le_of_ble_eq_true rfl) rfl dL_writeDown_5 ⟨Nat.le_of_ble_eq_true rfl, Nat.le_of_ble_eq_true rfl⟩ (fun ce q9 H1 hz hk hce hvn hcl => ?_)
  refine vx_catch (own := RL) (name := EIS) hown [⟨0, 10, 13, 19⟩] ⟨0, 10, 17, 13⟩ [] htb (fun z hz => by rw [List.mem_singleton.mp hz]; exact Or.inr ⟨by decide, EIA, (hts (.classLink RL 19 EIA) (List.mem_of_getElem? (i := 1) rfl)), hE.2.2.2.2.1⟩) (by decide) (by decide) (hts (.classLink RL 13 EIS) (List.mem_of_getElem? (i := 2) rfl)) (xE_cast xc_EIS hE) hce hvn hcl ?_
  refine lv_astore (lv' := [(4, .ref q9), (0, .ref (q 0)), (1, .int (nI k)), (2, .int (bI z)), (3, .ref o)]) hx hb dL_writeDown_17 hl (by decide) rfl (fun ls hl => ?_)
  refine lv_iconst (v := 2) hx hb dL_writeDown_19 (by decide) ?_
  exact W.iret (v := 2) hx hb hr (fun t9 ht9 hW9 => ⟨⟨2, (), rfl, rfl, trivial⟩, by rw [ht9]; exact hz, fun q h1 _ => by rw [ht9]; exact hk q h1⟩) (fun _ h => absurd h List.not_mem_nil) dL_writeDown_20
set_option maxHeartbeats 4000000 in
set_option maxRecDepth 100000 in
theorem w_L_strike (l : Launch) {D : va_G} {cI cZ cJ : ClassId} {q : Nat → Nat} {o : Nat} {f : Nat → Int64} {tc nc ac : Nat} {ch : Int32} {U : Nat → Int32} {Z : Nat → Bool} {B L F : Nat → Int32} {H : Heap} (hP : va_P D vwCl (wX cI cZ q tc nc ac ch U Z B L F ++ [(o, .inl (cJ, 1, .inr (.inl f)))]) H) (htc : tc ≤ 8) (hnc : nc ≤ 40) (hac : ac ≤ 8) (hD0 : va_D (fun _ => True) (wX cI cZ q tc nc ac ch U Z B L F ++ [(o, .inl (cJ, 1, .inr (.inl f)))])) {t : Nat} (ht : t < nc) : Met l yL_strike wsL_strike ({ frames := 3, cells := 0, slots := 0, locals := 68 }) (va_Pc [.ref (q 0), .int (nI t), .ref o] (rd D vwCl (tyA cI cZ ++ [(cJ, .long)]) H)) (va_Qi (fun r (_ : Unit) => r = 0) (fun _ t8 => va_P D vwCl (wX cI cZ q tc (nc - 1) ac ch (shf U t (nc - 1)) (shf Z t (nc - 1)) B L F ++ [(o, .inl (cJ, 1, .inr (.inl (vp_updL f 0 ((nI (nc - 1)).toInt64)))))]) t8.heap) (va_A (wX cI cZ q tc nc ac ch U Z B L F ++ [(o, .inl (cJ, 1, .inr (.inl f)))]) H.size)) 0 0 (va_A (wX cI cZ q tc nc ac ch U Z B L F ++ [(o, .inl (cJ, 1, .inr (.inl f)))]) H.size) := by
  refine met_ofWH (cc := cL_strike) (maxL := 4) (ret := (some .int)) (hh := [(0, 9, 12, 25)]) (by decide) rfl ?_
  intro p e s m args below meth c s₁ B9 hml hv
  obtain ⟨rfl, hH, hK⟩ := hv
  subst hH
  have hx := B9.exec
  have hb := B9.bytes
  have hr := B9.returns
  have hts := atoms_spec (ws := wsL_strike) B9.pre
  have hown : s.vm.findClass RL = some m.cls := findClass_of_methodNamed B9.named
  have hK2 : va_K D vwCl (tyA cI cZ) s := hK.sub [0, 1] rfl
  have hD0 := hD0.self (sz := s.heap.size)
  generalize hAe : va_A (wX cI cZ q tc nc ac ch U Z B L F ++ [(o, .inl (cJ, 1, .inr (.inl f)))]) s.heap.size = A at hD0 ⊢
  have hA : ∀ q : Nat, s.heap.size ≤ q → A q := fun q h => by rw [← hAe]; exact Or.inr h
  have hS : va_S A s.heap s.heap [] := va_S.rf
  have hD := hD0
  have hl := lv_entry ([.ref (q 0), .int (nI t), .ref o]) (n := 4) (Nat.le_of_ble_eq_true rfl)
  rw [lg_entry_eq]
  generalize (lg_sl ([.ref (q 0), .int (nI t), .ref o]) ++ List.replicate (4 - (lg_sl ([.ref (q 0), .int (nI t), .ref o])).length) Slot.unset).toArray = ls at hl ⊢
  have hl : lv_has ls 4 [(0, .ref (q 0)), (1, .int (nI t)), (2, .ref o)] := hl
  refine lv_aload_n hx hb dL_strike_0 rfl (lv_at hl 2 rfl) ?_
  refine lv_iconst (v := 0) hx hb dL_strike_1 (by decide) ?_
  refine lv_aload_n hx hb dL_strike_2 rfl (lv_at hl 0 rfl) ?_
  refine lv_iload_n hx hb dL_strike_3 rfl (lv_at hl 1 rfl) ?_
  refine wcV_i (As := [.int (nI t)]) (rest := [.int 0, .ref o]) ⟨hx, hb, hml, hown, hts⟩ (w_X_strike l (P_l hP) htc hnc hac (D_l hD) (t := t) ht) (cwV 1 hts gL_strike_X0_strike rfl rfl rfl hdX0_strike ⟨Nat.le_of_ble_eq_true rfl, Nat.le_of_ble_eq_true rfl⟩) (va_recv hK hP (ci := 0) (q0 := 0) rfl rfl) hK2 hS (fr_l hD hS hA) rfl hl.1 (Nat.le_of_ble_eq_true rfl) rfl dL_strike_4 ⟨Nat.le_of_ble_eq_true rfl, Nat.le_of_ble_eq_true rfl⟩ (fun H1 locs hP1 hz1 hk1 hS => ?_)
  have hP : va_P D vwCl (wX cI cZ q tc (nc - 1) ac ch (shf U t (nc - 1)) (shf Z t (nc - 1)) B L F ++ [(o, .inl (cJ, 1, .inr (.inl f)))]) H1 := up_l hP hD hk1 hP1
  have hD : va_D A (wX cI cZ q tc (nc - 1) ac ch (shf U t (nc - 1)) (shf Z t (nc - 1)) B L F ++ [(o, .inl (cJ, 1, .inr (.inl f)))]) := va_D_re hD rfl
  refine lv_i2l (v := (nI (nc - 1)).toInt64) hx hb dL_strike_7 rfl ?_
  refine ll_st hx hb hK hP hD hS 7 2 rfl rfl dL_strike_8 (fun H locs hP hS => ?_)
  refine lv_goto (tgt := 15) hx hb dL_strike_9 (by decide) ?_
  have hP : va_P D vwCl (wX cI cZ q tc (nc - 1) ac ch (shf U t (nc - 1)) (shf Z t (nc - 1)) B L F ++ [(o, .inl (cJ, 1, .inr (.inl (vp_updL f 0 ((nI (nc - 1)).toInt64)))))]) H := hP
  refine lv_iconst (v := 0) hx hb dL_strike_15 (by decide) ?_
  exact W.iret (v := 0) hx hb hr (fun t9 ht9 hW9 => ⟨⟨0, (), rfl, rfl, by show va_P D vwCl _ t9.heap; rw [ht9]; exact hP⟩, hS.F ht9⟩) hS.2.2 dL_strike_16
set_option maxHeartbeats 4000000 in
set_option maxRecDepth 100000 in
theorem wx_L_strike (l : Launch) (hl0 : l.stackTraces = false) {D : va_G} {cI cZ cJ : ClassId} {q : Nat → Nat} {o : Nat} {f : Nat → Int64} {tc nc ac : Nat} {ch : Int32} {U : Nat → Int32} {Z : Nat → Bool} {B L F : Nat → Int32} {H : Heap} (hP : va_P D vwCl (wX cI cZ q tc nc ac ch U Z B L F ++ [(o, .inl (cJ, 1, .inr (.inl f)))]) H) (htc : tc ≤ 8) (hnc : nc ≤ 40) (hac : ac ≤ 8) {v : Int32} (hv : v < 0 ∨ nI nc ≤ v) : Met l yL_strike wsL_strike ({ frames := 8, cells := 1, slots := 6, locals := 133 }) (va_Pc [.ref (q 0), .int v, .ref o] (rdx D vwCl (tyA cI cZ ++ [(cJ, .long)]) H)) (va_Qi (fun r (_ : Unit) => r = 1) (fun _ _ => True) (fun _ => False)) 1 6 (fun _ => False) := by
  refine met_ofWH (cc := cL_strike) (maxL := 4) (ret := (some .int)) (hh := [(0, 9, 12, 25)]) (by decide) rfl ?_
  intro p e s m args below meth c s₁ B9 hml hv
  obtain ⟨rfl, hH, hK, hE⟩ := hv
  subst hH
  have hx := B9.exec
  have hb := B9.bytes
  have hr := B9.returns
  have hts := atoms_spec (ws := wsL_strike) B9.pre
  have hown : s.vm.findClass RL = some m.cls := findClass_of_methodNamed B9.named
  have hK2 : va_K D vwCl (tyA cI cZ) s := hK.sub [0, 1] rfl
  have htb := vx_table (x := yL_strike) B9 (hts (.codeWith yL_strike cL_strike 4 (some .int) [(0, 9, 12, 25)]) List.mem_cons_self)
  have hl := lv_entry ([.ref (q 0), .int v, .ref o]) (n := 4) (Nat.le_of_ble_eq_true rfl)
  rw [lg_entry_eq]
  generalize (lg_sl ([.ref (q 0), .int v, .ref o]) ++ List.replicate (4 - (lg_sl ([.ref (q 0), .int v, .ref o])).length) Slot.unset).toArray = ls at hl ⊢
  have hl : lv_has ls 4 [(0, .ref (q 0)), (1, .int v), (2, .ref o)] := hl
  refine lv_aload_n hx hb dL_strike_0 rfl (lv_at hl 2 rfl) ?_
  refine lv_iconst (v := 0) hx hb dL_strike_1 (by decide) ?_
  refine lv_aload_n hx hb dL_strike_2 rfl (lv_at hl 0 rfl) ?_
  refine lv_iload_n hx hb dL_strike_3 rfl (lv_at hl 1 rfl) ?_
  refine bcV (E0 := EIO) (As := [.int v]) (rest := [.int 0, .ref o]) ⟨hx, hb, hml, hown, hts⟩ (b_X_strike l hl0 (P_l hP) htc hnc hac (v := v) hv) (cwV 1 hts gL_strike_X0_strike rfl rfl rfl hdX0_strike ⟨Nat.le_of_ble_eq_true rfl, Nat.le_of_ble_eq_true rfl⟩) (va_recv hK hP (ci := 0) (q0 := 0) rfl rfl) hK2 hE rfl hl.1 (Nat.le_of_ble_eq_true rfl) rfl dL_strike_4 ⟨Nat.le_of_ble_eq_true rfl, Nat.le_of_ble_eq_true rfl⟩ (fun ce q9 H1 hz hk hce hvn hcl => ?_)
  refine vx_catch (own := RL) (name := EIO) hown [] ⟨0, 9, 12, 25⟩ [] htb (fun z hz => absurd hz List.not_mem_nil) (by decide) (by decide) (hts (.classLink RL 25 EIO) (List.mem_of_getElem? (i := 1) rfl)) (xE_cast xc_EIO hE) hce hvn hcl ?_
  refine lv_astore_n (lv' := [(3, .ref q9), (0, .ref (q 0)), (1, .int v), (2, .ref o)]) hx hb dL_strike_12 rfl hl (by decide) rfl (fun ls hl => ?_)
  refine lv_iconst (v := 1) hx hb dL_strike_13 (by decide) ?_
  exact W.iret (v := 1) hx hb hr (fun t9 ht9 hW9 => ⟨⟨1, (), rfl, rfl, trivial⟩, by rw [ht9]; exact hz, fun q h1 _ => by rw [ht9]; exact hk q h1⟩) (fun _ h => absurd h List.not_mem_nil) dL_strike_14
set_option maxHeartbeats 4000000 in
set_option maxRecDepth 100000 in
theorem w_L_nightsWith (l : Launch) {D : va_G} {cI cZ cJ : ClassId} {q : Nat → Nat} {o : Nat} {f : Nat → Int64} {tc nc ac : Nat} {ch : Int32} {U : Nat → Int32} {Z : Nat → Bool} {B L F : Nat → Int32} {H : Heap} (hP : va_P D vwCl (wX cI cZ q tc nc ac ch U Z B L F ++ [(o, .inl (cJ, 1, .inr (.inl f)))]) H) (htc : tc ≤ 8) (hnc : nc ≤ 40) (hac : ac ≤ 8) (hD0 : va_D (fun _ => True) (wX cI cZ q tc nc ac ch U Z B L F ++ [(o, .inl (cJ, 1, .inr (.inl f)))])) {t : Nat} (ht : t < tc) : Met l yL_nightsWith wsL_nightsWith ({ frames := 3, cells := 0, slots := 0, locals := 64 }) (va_Pc [.ref (q 0), .int (nI t), .ref o] (rd D vwCl (tyA cI cZ ++ [(cJ, .long)]) H)) (va_Qi (fun r (_ : Unit) => r = 0) (fun _ t8 => va_P D vwCl (wX cI cZ q tc nc ac ch U Z B L F ++ [(o, .inl (cJ, 1, .inr (.inl (vp_updL f 0 ((nI (ct (fun j => ho (U j) (nI t)) nc)).toInt64)))))]) t8.heap) (va_A (wX cI cZ q tc nc ac ch U Z B L F ++ [(o, .inl (cJ, 1, .inr (.inl f)))]) H.size)) 0 0 (va_A (wX cI cZ q tc nc ac ch U Z B L F ++ [(o, .inl (cJ, 1, .inr (.inl f)))]) H.size) := by
  refine met_ofWH (cc := cL_nightsWith) (maxL := 4) (ret := (some .int)) (hh := [(0, 9, 12, 25)]) (by decide) rfl ?_
  intro p e s m args below meth c s₁ B9 hml hv
  obtain ⟨rfl, hH, hK⟩ := hv
  subst hH
  have hx := B9.exec
  have hb := B9.bytes
  have hr := B9.returns
  have hts := atoms_spec (ws := wsL_nightsWith) B9.pre
  have hown : s.vm.findClass RL = some m.cls := findClass_of_methodNamed B9.named
  have hK2 : va_K D vwCl (tyA cI cZ) s := hK.sub [0, 1] rfl
  have hD0 := hD0.self (sz := s.heap.size)
  generalize hAe : va_A (wX cI cZ q tc nc ac ch U Z B L F ++ [(o, .inl (cJ, 1, .inr (.inl f)))]) s.heap.size = A at hD0 ⊢
  have hA : ∀ q : Nat, s.heap.size ≤ q → A q := fun q h => by rw [← hAe]; exact Or.inr h
  have hS : va_S A s.heap s.heap [] := va_S.rf
  have hD := hD0
  have hl := lv_entry ([.ref (q 0), .int (nI t), .ref o]) (n := 4) (Nat.le_of_ble_eq_true rfl)
  rw [lg_entry_eq]
  generalize (lg_sl ([.ref (q 0), .int (nI t), .ref o]) ++ List.replicate (4 - (lg_sl ([.ref (q 0), .int (nI t), .ref o])).length) Slot.unset).toArray = ls at hl ⊢
  have hl : lv_has ls 4 [(0, .ref (q 0)), (1, .int (nI t)), (2, .ref o)] := hl
  refine lv_aload_n hx hb dL_nightsWith_0 rfl (lv_at hl 2 rfl) ?_
  refine lv_iconst (v := 0) hx hb dL_nightsWith_1 (by decide) ?_
  refine lv_aload_n hx hb dL_nightsWith_2 rfl (lv_at hl 0 rfl) ?_
  refine lv_iload_n hx hb dL_nightsWith_3 rfl (lv_at hl 1 rfl) ?_
  refine pcV_i (As := [.int (nI t)]) (rest := [.int 0, .ref o]) ⟨hx, hb, hml, hown, hts⟩ (g_X_nightsWith l (P_l hP) htc hnc hac (t := t) ht) (cwV 1 hts gL_nightsWith_X0_nightsWith rfl rfl rfl hdX0_nightsWith ⟨Nat.le_of_ble_eq_true rfl, Nat.le_of_ble_eq_true rfl⟩) (va_recv hK hP (ci := 0) (q0 := 0) rfl rfl) hK2 rfl hl.1 (Nat.le_of_ble_eq_true rfl) rfl dL_nightsWith_4 ⟨Nat.le_of_ble_eq_true rfl, Nat.le_of_ble_eq_true rfl⟩ ?_
  refine lv_i2l (v := (nI (ct (fun j => ho (U j) (nI t)) nc)).toInt64) hx hb dL_nightsWith_7 rfl ?_
  refine ll_st hx hb hK hP hD hS 7 2 rfl rfl dL_nightsWith_8 (fun H locs hP hS => ?_)
  refine lv_goto (tgt := 15) hx hb dL_nightsWith_9 (by decide) ?_
  have hP : va_P D vwCl (wX cI cZ q tc nc ac ch U Z B L F ++ [(o, .inl (cJ, 1, .inr (.inl (vp_updL f 0 ((nI (ct (fun j => ho (U j) (nI t)) nc)).toInt64)))))]) H := hP
  refine lv_iconst (v := 0) hx hb dL_nightsWith_15 (by decide) ?_
  exact W.iret (v := 0) hx hb hr (fun t9 ht9 hW9 => ⟨⟨0, (), rfl, rfl, by show va_P D vwCl _ t9.heap; rw [ht9]; exact hP⟩, hS.F ht9⟩) hS.2.2 dL_nightsWith_16
set_option maxHeartbeats 4000000 in
set_option maxRecDepth 100000 in
theorem wx_L_nightsWith (l : Launch) (hl0 : l.stackTraces = false) {D : va_G} {cI cZ cJ : ClassId} {q : Nat → Nat} {o : Nat} {f : Nat → Int64} {tc nc ac : Nat} {ch : Int32} {U : Nat → Int32} {Z : Nat → Bool} {B L F : Nat → Int32} {H : Heap} (hP : va_P D vwCl (wX cI cZ q tc nc ac ch U Z B L F ++ [(o, .inl (cJ, 1, .inr (.inl f)))]) H) (htc : tc ≤ 8) (hnc : nc ≤ 40) (hac : ac ≤ 8) {v : Int32} (hv : v < 0 ∨ nI tc ≤ v) : Met l yL_nightsWith wsL_nightsWith ({ frames := 8, cells := 1, slots := 6, locals := 134 }) (va_Pc [.ref (q 0), .int v, .ref o] (rdx D vwCl (tyA cI cZ ++ [(cJ, .long)]) H)) (va_Qi (fun r (_ : Unit) => r = 1) (fun _ _ => True) (fun _ => False)) 1 6 (fun _ => False) := by
  refine met_ofWH (cc := cL_nightsWith) (maxL := 4) (ret := (some .int)) (hh := [(0, 9, 12, 25)]) (by decide) rfl ?_
  intro p e s m args below meth c s₁ B9 hml hv
  obtain ⟨rfl, hH, hK, hE⟩ := hv
  subst hH
  have hx := B9.exec
  have hb := B9.bytes
  have hr := B9.returns
  have hts := atoms_spec (ws := wsL_nightsWith) B9.pre
  have hown : s.vm.findClass RL = some m.cls := findClass_of_methodNamed B9.named
  have hK2 : va_K D vwCl (tyA cI cZ) s := hK.sub [0, 1] rfl
  have htb := vx_table (x := yL_nightsWith) B9 (hts (.codeWith yL_nightsWith cL_nightsWith 4 (some .int) [(0, 9, 12, 25)]) List.mem_cons_self)
  have hl := lv_entry ([.ref (q 0), .int v, .ref o]) (n := 4) (Nat.le_of_ble_eq_true rfl)
  rw [lg_entry_eq]
  generalize (lg_sl ([.ref (q 0), .int v, .ref o]) ++ List.replicate (4 - (lg_sl ([.ref (q 0), .int v, .ref o])).length) Slot.unset).toArray = ls at hl ⊢
  have hl : lv_has ls 4 [(0, .ref (q 0)), (1, .int v), (2, .ref o)] := hl
  refine lv_aload_n hx hb dL_nightsWith_0 rfl (lv_at hl 2 rfl) ?_
  refine lv_iconst (v := 0) hx hb dL_nightsWith_1 (by decide) ?_
  refine lv_aload_n hx hb dL_nightsWith_2 rfl (lv_at hl 0 rfl) ?_
  refine lv_iload_n hx hb dL_nightsWith_3 rfl (lv_at hl 1 rfl) ?_
  refine bcV (E0 := EIO) (As := [.int v]) (rest := [.int 0, .ref o]) ⟨hx, hb, hml, hown, hts⟩ (b_X_nightsWith l hl0 (P_l hP) htc hnc hac (v := v) hv) (cwV 1 hts gL_nightsWith_X0_nightsWith rfl rfl rfl hdX0_nightsWith ⟨Nat.le_of_ble_eq_true rfl, Nat.le_of_ble_eq_true rfl⟩) (va_recv hK hP (ci := 0) (q0 := 0) rfl rfl) hK2 hE rfl hl.1 (Nat.le_of_ble_eq_true rfl) rfl dL_nightsWith_4 ⟨Nat.le_of_ble_eq_true rfl, Nat.le_of_ble_eq_true rfl⟩ (fun ce q9 H1 hz hk hce hvn hcl => ?_)
  refine vx_catch (own := RL) (name := EIO) hown [] ⟨0, 9, 12, 25⟩ [] htb (fun z hz => absurd hz List.not_mem_nil) (by decide) (by decide) (hts (.classLink RL 25 EIO) (List.mem_of_getElem? (i := 1) rfl)) (xE_cast xc_EIO hE) hce hvn hcl ?_
  refine lv_astore_n (lv' := [(3, .ref q9), (0, .ref (q 0)), (1, .int v), (2, .ref o)]) hx hb dL_nightsWith_12 rfl hl (by decide) rfl (fun ls hl => ?_)
  refine lv_iconst (v := 1) hx hb dL_nightsWith_13 (by decide) ?_
  exact W.iret (v := 1) hx hb hr (fun t9 ht9 hW9 => ⟨⟨1, (), rfl, rfl, trivial⟩, by rw [ht9]; exact hz, fun q h1 _ => by rw [ht9]; exact hk q h1⟩) (fun _ h => absurd h List.not_mem_nil) dL_nightsWith_14
set_option maxHeartbeats 4000000 in
set_option maxRecDepth 100000 in
theorem w_L_smudgesWith (l : Launch) {D : va_G} {cI cZ cJ : ClassId} {q : Nat → Nat} {o : Nat} {f : Nat → Int64} {tc nc ac : Nat} {ch : Int32} {U : Nat → Int32} {Z : Nat → Bool} {B L F : Nat → Int32} {H : Heap} (hP : va_P D vwCl (wX cI cZ q tc nc ac ch U Z B L F ++ [(o, .inl (cJ, 1, .inr (.inl f)))]) H) (htc : tc ≤ 8) (hnc : nc ≤ 40) (hac : ac ≤ 8) (hD0 : va_D (fun _ => True) (wX cI cZ q tc nc ac ch U Z B L F ++ [(o, .inl (cJ, 1, .inr (.inl f)))])) {t : Nat} (ht : t < tc) : Met l yL_smudgesWith wsL_smudgesWith ({ frames := 3, cells := 0, slots := 0, locals := 64 }) (va_Pc [.ref (q 0), .int (nI t), .ref o] (rd D vwCl (tyA cI cZ ++ [(cJ, .long)]) H)) (va_Qi (fun r (_ : Unit) => r = 0) (fun _ t8 => va_P D vwCl (wX cI cZ q tc nc ac ch U Z B L F ++ [(o, .inl (cJ, 1, .inr (.inl (vp_updL f 0 ((nI (ct (fun j => Z j && ho (U j) (nI t)) nc)).toInt64)))))]) t8.heap) (va_A (wX cI cZ q tc nc ac ch U Z B L F ++ [(o, .inl (cJ, 1, .inr (.inl f)))]) H.size)) 0 0 (va_A (wX cI cZ q tc nc ac ch U Z B L F ++ [(o, .inl (cJ, 1, .inr (.inl f)))]) H.size) := by
  refine met_ofWH (cc := cL_smudgesWith) (maxL := 4) (ret := (some .int)) (hh := [(0, 9, 12, 25)]) (by decide) rfl ?_
  intro p e s m args below meth c s₁ B9 hml hv
  obtain ⟨rfl, hH, hK⟩ := hv
  subst hH
  have hx := B9.exec
  have hb := B9.bytes
  have hr := B9.returns
  have hts := atoms_spec (ws := wsL_smudgesWith) B9.pre
  have hown : s.vm.findClass RL = some m.cls := findClass_of_methodNamed B9.named
  have hK2 : va_K D vwCl (tyA cI cZ) s := hK.sub [0, 1] rfl
  have hD0 := hD0.self (sz := s.heap.size)
  generalize hAe : va_A (wX cI cZ q tc nc ac ch U Z B L F ++ [(o, .inl (cJ, 1, .inr (.inl f)))]) s.heap.size = A at hD0 ⊢
  have hA : ∀ q : Nat, s.heap.size ≤ q → A q := fun q h => by rw [← hAe]; exact Or.inr h
  have hS : va_S A s.heap s.heap [] := va_S.rf
  have hD := hD0
  have hl := lv_entry ([.ref (q 0), .int (nI t), .ref o]) (n := 4) (Nat.le_of_ble_eq_true rfl)
  rw [lg_entry_eq]
  generalize (lg_sl ([.ref (q 0), .int (nI t), .ref o]) ++ List.replicate (4 - (lg_sl ([.ref (q 0), .int (nI t), .ref o])).length) Slot.unset).toArray = ls at hl ⊢
  have hl : lv_has ls 4 [(0, .ref (q 0)), (1, .int (nI t)), (2, .ref o)] := hl
  refine lv_aload_n hx hb dL_smudgesWith_0 rfl (lv_at hl 2 rfl) ?_
  refine lv_iconst (v := 0) hx hb dL_smudgesWith_1 (by decide) ?_
  refine lv_aload_n hx hb dL_smudgesWith_2 rfl (lv_at hl 0 rfl) ?_
  refine lv_iload_n hx hb dL_smudgesWith_3 rfl (lv_at hl 1 rfl) ?_
  refine pcV_i (As := [.int (nI t)]) (rest := [.int 0, .ref o]) ⟨hx, hb, hml, hown, hts⟩ (g_X_smudgesWith l (P_l hP) htc hnc hac (t := t) ht) (cwV 1 hts gL_smudgesWith_X0_smudgesWith rfl rfl rfl hdX0_smudgesWith ⟨Nat.le_of_ble_eq_true rfl, Nat.le_of_ble_eq_true rfl⟩) (va_recv hK hP (ci := 0) (q0 := 0) rfl rfl) hK2 rfl hl.1 (Nat.le_of_ble_eq_true rfl) rfl dL_smudgesWith_4 ⟨Nat.le_of_ble_eq_true rfl, Nat.le_of_ble_eq_true rfl⟩ ?_
  refine lv_i2l (v := (nI (ct (fun j => Z j && ho (U j) (nI t)) nc)).toInt64) hx hb dL_smudgesWith_7 rfl ?_
  refine ll_st hx hb hK hP hD hS 7 2 rfl rfl dL_smudgesWith_8 (fun H locs hP hS => ?_)
  refine lv_goto (tgt := 15) hx hb dL_smudgesWith_9 (by decide) ?_
  have hP : va_P D vwCl (wX cI cZ q tc nc ac ch U Z B L F ++ [(o, .inl (cJ, 1, .inr (.inl (vp_updL f 0 ((nI (ct (fun j => Z j && ho (U j) (nI t)) nc)).toInt64)))))]) H := hP
  refine lv_iconst (v := 0) hx hb dL_smudgesWith_15 (by decide) ?_
  exact W.iret (v := 0) hx hb hr (fun t9 ht9 hW9 => ⟨⟨0, (), rfl, rfl, by show va_P D vwCl _ t9.heap; rw [ht9]; exact hP⟩, hS.F ht9⟩) hS.2.2 dL_smudgesWith_16
set_option maxHeartbeats 4000000 in
set_option maxRecDepth 100000 in
theorem wx_L_smudgesWith (l : Launch) (hl0 : l.stackTraces = false) {D : va_G} {cI cZ cJ : ClassId} {q : Nat → Nat} {o : Nat} {f : Nat → Int64} {tc nc ac : Nat} {ch : Int32} {U : Nat → Int32} {Z : Nat → Bool} {B L F : Nat → Int32} {H : Heap} (hP : va_P D vwCl (wX cI cZ q tc nc ac ch U Z B L F ++ [(o, .inl (cJ, 1, .inr (.inl f)))]) H) (htc : tc ≤ 8) (hnc : nc ≤ 40) (hac : ac ≤ 8) {v : Int32} (hv : v < 0 ∨ nI tc ≤ v) : Met l yL_smudgesWith wsL_smudgesWith ({ frames := 8, cells := 1, slots := 6, locals := 134 }) (va_Pc [.ref (q 0), .int v, .ref o] (rdx D vwCl (tyA cI cZ ++ [(cJ, .long)]) H)) (va_Qi (fun r (_ : Unit) => r = 1) (fun _ _ => True) (fun _ => False)) 1 6 (fun _ => False) := by
  refine met_ofWH (cc := cL_smudgesWith) (maxL := 4) (ret := (some .int)) (hh := [(0, 9, 12, 25)]) (by decide) rfl ?_
  intro p e s m args below meth c s₁ B9 hml hv
  obtain ⟨rfl, hH, hK, hE⟩ := hv
  subst hH
  have hx := B9.exec
  have hb := B9.bytes
  have hr := B9.returns
  have hts := atoms_spec (ws := wsL_smudgesWith) B9.pre
  have hown : s.vm.findClass RL = some m.cls := findClass_of_methodNamed B9.named
  have hK2 : va_K D vwCl (tyA cI cZ) s := hK.sub [0, 1] rfl
  have htb := vx_table (x := yL_smudgesWith) B9 (hts (.codeWith yL_smudgesWith cL_smudgesWith 4 (some .int) [(0, 9, 12, 25)]) List.mem_cons_self)
  have hl := lv_entry ([.ref (q 0), .int v, .ref o]) (n := 4) (Nat.le_of_ble_eq_true rfl)
  rw [lg_entry_eq]
  generalize (lg_sl ([.ref (q 0), .int v, .ref o]) ++ List.replicate (4 - (lg_sl ([.ref (q 0), .int v, .ref o])).length) Slot.unset).toArray = ls at hl ⊢
  have hl : lv_has ls 4 [(0, .ref (q 0)), (1, .int v), (2, .ref o)] := hl
  refine lv_aload_n hx hb dL_smudgesWith_0 rfl (lv_at hl 2 rfl) ?_
  refine lv_iconst (v := 0) hx hb dL_smudgesWith_1 (by decide) ?_
  refine lv_aload_n hx hb dL_smudgesWith_2 rfl (lv_at hl 0 rfl) ?_
  refine lv_iload_n hx hb dL_smudgesWith_3 rfl (lv_at hl 1 rfl) ?_
  refine bcV (E0 := EIO) (As := [.int v]) (rest := [.int 0, .ref o]) ⟨hx, hb, hml, hown, hts⟩ (b_X_smudgesWith l hl0 (P_l hP) htc hnc hac (v := v) hv) (cwV 1 hts gL_smudgesWith_X0_smudgesWith rfl rfl rfl hdX0_smudgesWith ⟨Nat.le_of_ble_eq_true rfl, Nat.le_of_ble_eq_true rfl⟩) (va_recv hK hP (ci := 0) (q0 := 0) rfl rfl) hK2 hE rfl hl.1 (Nat.le_of_ble_eq_true rfl) rfl dL_smudgesWith_4 ⟨Nat.le_of_ble_eq_true rfl, Nat.le_of_ble_eq_true rfl⟩ (fun ce q9 H1 hz hk hce hvn hcl => ?_)
  refine vx_catch (own := RL) (name := EIO) hown [] ⟨0, 9, 12, 25⟩ [] htb (fun z hz => absurd hz List.not_mem_nil) (by decide) (by decide) (hts (.classLink RL 25 EIO) (List.mem_of_getElem? (i := 1) rfl)) (xE_cast xc_EIO hE) hce hvn hcl ?_
  refine lv_astore_n (lv' := [(3, .ref q9), (0, .ref (q 0)), (1, .int v), (2, .ref o)]) hx hb dL_smudgesWith_12 rfl hl (by decide) rfl (fun ls hl => ?_)
  refine lv_iconst (v := 1) hx hb dL_smudgesWith_13 (by decide) ?_
  exact W.iret (v := 1) hx hb hr (fun t9 ht9 hW9 => ⟨⟨1, (), rfl, rfl, trivial⟩, by rw [ht9]; exact hz, fun q h1 _ => by rw [ht9]; exact hk q h1⟩) (fun _ h => absurd h List.not_mem_nil) dL_smudgesWith_14
set_option maxHeartbeats 4000000 in
set_option maxRecDepth 100000 in
theorem w_L_isCleared (l : Launch) {D : va_G} {cI cZ cJ : ClassId} {q : Nat → Nat} {o : Nat} {f : Nat → Int64} {tc nc ac : Nat} {ch : Int32} {U : Nat → Int32} {Z : Nat → Bool} {B L F : Nat → Int32} {H : Heap} (hP : va_P D vwCl (wX cI cZ q tc nc ac ch U Z B L F ++ [(o, .inl (cJ, 1, .inr (.inl f)))]) H) (htc : tc ≤ 8) (hnc : nc ≤ 40) (hac : ac ≤ 8) (hD0 : va_D (fun _ => True) (wX cI cZ q tc nc ac ch U Z B L F ++ [(o, .inl (cJ, 1, .inr (.inl f)))])) {t : Nat} (ht : t < tc) : Met l yL_isCleared wsL_isCleared ({ frames := 3, cells := 0, slots := 0, locals := 62 }) (va_Pc [.ref (q 0), .int (nI t), .ref o] (rd D vwCl (tyA cI cZ ++ [(cJ, .long)]) H)) (va_Qi (fun r (_ : Unit) => r = 0) (fun _ t8 => va_P D vwCl (wX cI cZ q tc nc ac ch U Z B L F ++ [(o, .inl (cJ, 1, .inr (.inl (vp_updL f 0 ((bI (ho (cld U Z nc) (nI t))).toInt64)))))]) t8.heap) (va_A (wX cI cZ q tc nc ac ch U Z B L F ++ [(o, .inl (cJ, 1, .inr (.inl f)))]) H.size)) 0 0 (va_A (wX cI cZ q tc nc ac ch U Z B L F ++ [(o, .inl (cJ, 1, .inr (.inl f)))]) H.size) := by
  refine met_ofWH (cc := cL_isCleared) (maxL := 4) (ret := (some .int)) (hh := [(0, 16, 19, 25)]) (by decide) rfl ?_
  intro p e s m args below meth c s₁ B9 hml hv
  obtain ⟨rfl, hH, hK⟩ := hv
  subst hH
  have hx := B9.exec
  have hb := B9.bytes
  have hr := B9.returns
  have hts := atoms_spec (ws := wsL_isCleared) B9.pre
  have hown : s.vm.findClass RL = some m.cls := findClass_of_methodNamed B9.named
  have hK2 : va_K D vwCl (tyA cI cZ) s := hK.sub [0, 1] rfl
  have hD0 := hD0.self (sz := s.heap.size)
  generalize hAe : va_A (wX cI cZ q tc nc ac ch U Z B L F ++ [(o, .inl (cJ, 1, .inr (.inl f)))]) s.heap.size = A at hD0 ⊢
  have hA : ∀ q : Nat, s.heap.size ≤ q → A q := fun q h => by rw [← hAe]; exact Or.inr h
  have hS : va_S A s.heap s.heap [] := va_S.rf
  have hD := hD0
  have hl := lv_entry ([.ref (q 0), .int (nI t), .ref o]) (n := 4) (Nat.le_of_ble_eq_true rfl)
  rw [lg_entry_eq]
  generalize (lg_sl ([.ref (q 0), .int (nI t), .ref o]) ++ List.replicate (4 - (lg_sl ([.ref (q 0), .int (nI t), .ref o])).length) Slot.unset).toArray = ls at hl ⊢
  have hl : lv_has ls 4 [(0, .ref (q 0)), (1, .int (nI t)), (2, .ref o)] := hl
  refine lv_aload_n hx hb dL_isCleared_0 rfl (lv_at hl 2 rfl) ?_
  refine lv_iconst (v := 0) hx hb dL_isCleared_1 (by decide) ?_
  refine lv_aload_n hx hb dL_isCleared_2 rfl (lv_at hl 0 rfl) ?_
  refine lv_iload_n hx hb dL_isCleared_3 rfl (lv_at hl 1 rfl) ?_
  refine pcV_i (As := [.int (nI t)]) (rest := [.int 0, .ref o]) ⟨hx, hb, hml, hown, hts⟩ (g_X_isCleared l (P_l hP) htc hnc hac (t := t) ht) (cwV 1 hts gL_isCleared_X0_isCleared rfl rfl rfl hdX0_isCleared ⟨Nat.le_of_ble_eq_true rfl, Nat.le_of_ble_eq_true rfl⟩) (va_recv hK hP (ci := 0) (q0 := 0) rfl rfl) hK2 rfl hl.1 (Nat.le_of_ble_eq_true rfl) rfl dL_isCleared_4 ⟨Nat.le_of_ble_eq_true rfl, Nat.le_of_ble_eq_true rfl⟩ ?_
  refine lv_bl (t0 := 14) hx hb dL_isCleared_7 dL_isCleared_10 dL_isCleared_11 dL_isCleared_14 (by decide) (by decide) ?_
  refine ll_st hx hb hK hP hD hS 7 2 rfl rfl dL_isCleared_15 (fun H locs hP hS => ?_)
  refine lv_goto (tgt := 22) hx hb dL_isCleared_16 (by decide) ?_
  have hP : va_P D vwCl (wX cI cZ q tc nc ac ch U Z B L F ++ [(o, .inl (cJ, 1, .inr (.inl (vp_updL f 0 ((bI (ho (cld U Z nc) (nI t))).toInt64)))))]) H := hP
  refine lv_iconst (v := 0) hx hb dL_isCleared_22 (by decide) ?_
  exact W.iret (v := 0) hx hb hr (fun t9 ht9 hW9 => ⟨⟨0, (), rfl, rfl, by show va_P D vwCl _ t9.heap; rw [ht9]; exact hP⟩, hS.F ht9⟩) hS.2.2 dL_isCleared_23
set_option maxHeartbeats 4000000 in
set_option maxRecDepth 100000 in
theorem wx_L_isCleared (l : Launch) (hl0 : l.stackTraces = false) {D : va_G} {cI cZ cJ : ClassId} {q : Nat → Nat} {o : Nat} {f : Nat → Int64} {tc nc ac : Nat} {ch : Int32} {U : Nat → Int32} {Z : Nat → Bool} {B L F : Nat → Int32} {H : Heap} (hP : va_P D vwCl (wX cI cZ q tc nc ac ch U Z B L F ++ [(o, .inl (cJ, 1, .inr (.inl f)))]) H) (htc : tc ≤ 8) (hnc : nc ≤ 40) (hac : ac ≤ 8) {v : Int32} (hv : v < 0 ∨ nI tc ≤ v) : Met l yL_isCleared wsL_isCleared ({ frames := 8, cells := 1, slots := 6, locals := 132 }) (va_Pc [.ref (q 0), .int v, .ref o] (rdx D vwCl (tyA cI cZ ++ [(cJ, .long)]) H)) (va_Qi (fun r (_ : Unit) => r = 1) (fun _ _ => True) (fun _ => False)) 1 6 (fun _ => False) := by
  refine met_ofWH (cc := cL_isCleared) (maxL := 4) (ret := (some .int)) (hh := [(0, 16, 19, 25)]) (by decide) rfl ?_
  intro p e s m args below meth c s₁ B9 hml hv
  obtain ⟨rfl, hH, hK, hE⟩ := hv
  subst hH
  have hx := B9.exec
  have hb := B9.bytes
  have hr := B9.returns
  have hts := atoms_spec (ws := wsL_isCleared) B9.pre
  have hown : s.vm.findClass RL = some m.cls := findClass_of_methodNamed B9.named
  have hK2 : va_K D vwCl (tyA cI cZ) s := hK.sub [0, 1] rfl
  have htb := vx_table (x := yL_isCleared) B9 (hts (.codeWith yL_isCleared cL_isCleared 4 (some .int) [(0, 16, 19, 25)]) List.mem_cons_self)
  have hl := lv_entry ([.ref (q 0), .int v, .ref o]) (n := 4) (Nat.le_of_ble_eq_true rfl)
  rw [lg_entry_eq]
  generalize (lg_sl ([.ref (q 0), .int v, .ref o]) ++ List.replicate (4 - (lg_sl ([.ref (q 0), .int v, .ref o])).length) Slot.unset).toArray = ls at hl ⊢
  have hl : lv_has ls 4 [(0, .ref (q 0)), (1, .int v), (2, .ref o)] := hl
  refine lv_aload_n hx hb dL_isCleared_0 rfl (lv_at hl 2 rfl) ?_
  refine lv_iconst (v := 0) hx hb dL_isCleared_1 (by decide) ?_
  refine lv_aload_n hx hb dL_isCleared_2 rfl (lv_at hl 0 rfl) ?_
  refine lv_iload_n hx hb dL_isCleared_3 rfl (lv_at hl 1 rfl) ?_
  refine bcV (E0 := EIO) (As := [.int v]) (rest := [.int 0, .ref o]) ⟨hx, hb, hml, hown, hts⟩ (b_X_isCleared l hl0 (P_l hP) htc hnc hac (v := v) hv) (cwV 1 hts gL_isCleared_X0_isCleared rfl rfl rfl hdX0_isCleared ⟨Nat.le_of_ble_eq_true rfl, Nat.le_of_ble_eq_true rfl⟩) (va_recv hK hP (ci := 0) (q0 := 0) rfl rfl) hK2 hE rfl hl.1 (Nat.le_of_ble_eq_true rfl) rfl dL_isCleared_4 ⟨Nat.le_of_ble_eq_true rfl, Nat.le_of_ble_eq_true rfl⟩ (fun ce q9 H1 hz hk hce hvn hcl => ?_)
  refine vx_catch (own := RL) (name := EIO) hown [] ⟨0, 16, 19, 25⟩ [] htb (fun z hz => absurd hz List.not_mem_nil) (by decide) (by decide) (hts (.classLink RL 25 EIO) (List.mem_of_getElem? (i := 1) rfl)) (xE_cast xc_EIO hE) hce hvn hcl ?_
  refine lv_astore_n (lv' := [(3, .ref q9), (0, .ref (q 0)), (1, .int v), (2, .ref o)]) hx hb dL_isCleared_19 rfl hl (by decide) rfl (fun ls hl => ?_)
  refine lv_iconst (v := 1) hx hb dL_isCleared_20 (by decide) ?_
  exact W.iret (v := 1) hx hb hr (fun t9 ht9 hW9 => ⟨⟨1, (), rfl, rfl, trivial⟩, by rw [ht9]; exact hz, fun q h1 _ => by rw [ht9]; exact hk q h1⟩) (fun _ h => absurd h List.not_mem_nil) dL_isCleared_21
set_option maxHeartbeats 4000000 in
set_option maxRecDepth 100000 in
theorem w_L_isProved (l : Launch) {D : va_G} {cI cZ cJ : ClassId} {q : Nat → Nat} {o : Nat} {f : Nat → Int64} {tc nc ac : Nat} {ch : Int32} {U : Nat → Int32} {Z : Nat → Bool} {B L F : Nat → Int32} {H : Heap} (hP : va_P D vwCl (wX cI cZ q tc nc ac ch U Z B L F ++ [(o, .inl (cJ, 1, .inr (.inl f)))]) H) (htc : tc ≤ 8) (hnc : nc ≤ 40) (hac : ac ≤ 8) (hD0 : va_D (fun _ => True) (wX cI cZ q tc nc ac ch U Z B L F ++ [(o, .inl (cJ, 1, .inr (.inl f)))])) {t : Nat} (ht : t < tc) : Met l yL_isProved wsL_isProved ({ frames := 3, cells := 0, slots := 0, locals := 65 }) (va_Pc [.ref (q 0), .int (nI t), .ref o] (rd D vwCl (tyA cI cZ ++ [(cJ, .long)]) H)) (va_Qi (fun r (_ : Unit) => r = 0) (fun _ t8 => va_P D vwCl (wX cI cZ q tc nc ac ch U Z B L F ++ [(o, .inl (cJ, 1, .inr (.inl (vp_updL f 0 ((bI (anyb (fun j => Z j && ho (U j) (nI t) && decide (U j &&& ((cld U Z nc ||| ((1 : Int32) <<< (nI t &&& 31))) ^^^ (-1)) = 0)) nc)).toInt64)))))]) t8.heap) (va_A (wX cI cZ q tc nc ac ch U Z B L F ++ [(o, .inl (cJ, 1, .inr (.inl f)))]) H.size)) 0 0 (va_A (wX cI cZ q tc nc ac ch U Z B L F ++ [(o, .inl (cJ, 1, .inr (.inl f)))]) H.size) := by
  refine met_ofWH (cc := cL_isProved) (maxL := 4) (ret := (some .int)) (hh := [(0, 16, 19, 25)]) (by decide) rfl ?_
  intro p e s m args below meth c s₁ B9 hml hv
  obtain ⟨rfl, hH, hK⟩ := hv
  subst hH
  have hx := B9.exec
  have hb := B9.bytes
  have hr := B9.returns
  have hts := atoms_spec (ws := wsL_isProved) B9.pre
  have hown : s.vm.findClass RL = some m.cls := findClass_of_methodNamed B9.named
  have hK2 : va_K D vwCl (tyA cI cZ) s := hK.sub [0, 1] rfl
  have hD0 := hD0.self (sz := s.heap.size)
  generalize hAe : va_A (wX cI cZ q tc nc ac ch U Z B L F ++ [(o, .inl (cJ, 1, .inr (.inl f)))]) s.heap.size = A at hD0 ⊢
  have hA : ∀ q : Nat, s.heap.size ≤ q → A q := fun q h => by rw [← hAe]; exact Or.inr h
  have hS : va_S A s.heap s.heap [] := va_S.rf
  have hD := hD0
  have hl := lv_entry ([.ref (q 0), .int (nI t), .ref o]) (n := 4) (Nat.le_of_ble_eq_true rfl)
  rw [lg_entry_eq]
  generalize (lg_sl ([.ref (q 0), .int (nI t), .ref o]) ++ List.replicate (4 - (lg_sl ([.ref (q 0), .int (nI t), .ref o])).length) Slot.unset).toArray = ls at hl ⊢
  have hl : lv_has ls 4 [(0, .ref (q 0)), (1, .int (nI t)), (2, .ref o)] := hl
  refine lv_aload_n hx hb dL_isProved_0 rfl (lv_at hl 2 rfl) ?_
  refine lv_iconst (v := 0) hx hb dL_isProved_1 (by decide) ?_
  refine lv_aload_n hx hb dL_isProved_2 rfl (lv_at hl 0 rfl) ?_
  refine lv_iload_n hx hb dL_isProved_3 rfl (lv_at hl 1 rfl) ?_
  refine pcV_i (As := [.int (nI t)]) (rest := [.int 0, .ref o]) ⟨hx, hb, hml, hown, hts⟩ (g_X_isProved l (P_l hP) htc hnc hac (t := t) ht) (cwV 1 hts gL_isProved_X0_isProved rfl rfl rfl hdX0_isProved ⟨Nat.le_of_ble_eq_true rfl, Nat.le_of_ble_eq_true rfl⟩) (va_recv hK hP (ci := 0) (q0 := 0) rfl rfl) hK2 rfl hl.1 (Nat.le_of_ble_eq_true rfl) rfl dL_isProved_4 ⟨Nat.le_of_ble_eq_true rfl, Nat.le_of_ble_eq_true rfl⟩ ?_
  refine lv_bl (t0 := 14) hx hb dL_isProved_7 dL_isProved_10 dL_isProved_11 dL_isProved_14 (by decide) (by decide) ?_
  refine ll_st hx hb hK hP hD hS 7 2 rfl rfl dL_isProved_15 (fun H locs hP hS => ?_)
  refine lv_goto (tgt := 22) hx hb dL_isProved_16 (by decide) ?_
  have hP : va_P D vwCl (wX cI cZ q tc nc ac ch U Z B L F ++ [(o, .inl (cJ, 1, .inr (.inl (vp_updL f 0 ((bI (anyb (fun j => Z j && ho (U j) (nI t) && decide (U j &&& ((cld U Z nc ||| ((1 : Int32) <<< (nI t &&& 31))) ^^^ (-1)) = 0)) nc)).toInt64)))))]) H := hP
  refine lv_iconst (v := 0) hx hb dL_isProved_22 (by decide) ?_
  exact W.iret (v := 0) hx hb hr (fun t9 ht9 hW9 => ⟨⟨0, (), rfl, rfl, by show va_P D vwCl _ t9.heap; rw [ht9]; exact hP⟩, hS.F ht9⟩) hS.2.2 dL_isProved_23
set_option maxHeartbeats 4000000 in
set_option maxRecDepth 100000 in
theorem wx_L_isProved (l : Launch) (hl0 : l.stackTraces = false) {D : va_G} {cI cZ cJ : ClassId} {q : Nat → Nat} {o : Nat} {f : Nat → Int64} {tc nc ac : Nat} {ch : Int32} {U : Nat → Int32} {Z : Nat → Bool} {B L F : Nat → Int32} {H : Heap} (hP : va_P D vwCl (wX cI cZ q tc nc ac ch U Z B L F ++ [(o, .inl (cJ, 1, .inr (.inl f)))]) H) (htc : tc ≤ 8) (hnc : nc ≤ 40) (hac : ac ≤ 8) {v : Int32} (hv : v < 0 ∨ nI tc ≤ v) : Met l yL_isProved wsL_isProved ({ frames := 8, cells := 1, slots := 6, locals := 135 }) (va_Pc [.ref (q 0), .int v, .ref o] (rdx D vwCl (tyA cI cZ ++ [(cJ, .long)]) H)) (va_Qi (fun r (_ : Unit) => r = 1) (fun _ _ => True) (fun _ => False)) 1 6 (fun _ => False) := by
  refine met_ofWH (cc := cL_isProved) (maxL := 4) (ret := (some .int)) (hh := [(0, 16, 19, 25)]) (by decide) rfl ?_
  intro p e s m args below meth c s₁ B9 hml hv
  obtain ⟨rfl, hH, hK, hE⟩ := hv
  subst hH
  have hx := B9.exec
  have hb := B9.bytes
  have hr := B9.returns
  have hts := atoms_spec (ws := wsL_isProved) B9.pre
  have hown : s.vm.findClass RL = some m.cls := findClass_of_methodNamed B9.named
  have hK2 : va_K D vwCl (tyA cI cZ) s := hK.sub [0, 1] rfl
  have htb := vx_table (x := yL_isProved) B9 (hts (.codeWith yL_isProved cL_isProved 4 (some .int) [(0, 16, 19, 25)]) List.mem_cons_self)
  have hl := lv_entry ([.ref (q 0), .int v, .ref o]) (n := 4) (Nat.le_of_ble_eq_true rfl)
  rw [lg_entry_eq]
  generalize (lg_sl ([.ref (q 0), .int v, .ref o]) ++ List.replicate (4 - (lg_sl ([.ref (q 0), .int v, .ref o])).length) Slot.unset).toArray = ls at hl ⊢
  have hl : lv_has ls 4 [(0, .ref (q 0)), (1, .int v), (2, .ref o)] := hl
  refine lv_aload_n hx hb dL_isProved_0 rfl (lv_at hl 2 rfl) ?_
  refine lv_iconst (v := 0) hx hb dL_isProved_1 (by decide) ?_
  refine lv_aload_n hx hb dL_isProved_2 rfl (lv_at hl 0 rfl) ?_
  refine lv_iload_n hx hb dL_isProved_3 rfl (lv_at hl 1 rfl) ?_
  refine bcV (E0 := EIO) (As := [.int v]) (rest := [.int 0, .ref o]) ⟨hx, hb, hml, hown, hts⟩ (b_X_isProved l hl0 (P_l hP) htc hnc hac (v := v) hv) (cwV 1 hts gL_isProved_X0_isProved rfl rfl rfl hdX0_isProved ⟨Nat.le_of_ble_eq_true rfl, Nat.le_of_ble_eq_true rfl⟩) (va_recv hK hP (ci := 0) (q0 := 0) rfl rfl) hK2 hE rfl hl.1 (Nat.le_of_ble_eq_true rfl) rfl dL_isProved_4 ⟨Nat.le_of_ble_eq_true rfl, Nat.le_of_ble_eq_true rfl⟩ (fun ce q9 H1 hz hk hce hvn hcl => ?_)
  refine vx_catch (own := RL) (name := EIO) hown [] ⟨0, 16, 19, 25⟩ [] htb (fun z hz => absurd hz List.not_mem_nil) (by decide) (by decide) (hts (.classLink RL 25 EIO) (List.mem_of_getElem? (i := 1) rfl)) (xE_cast xc_EIO hE) hce hvn hcl ?_
  refine lv_astore_n (lv' := [(3, .ref q9), (0, .ref (q 0)), (1, .int v), (2, .ref o)]) hx hb dL_isProved_19 rfl hl (by decide) rfl (fun ls hl => ?_)
  refine lv_iconst (v := 1) hx hb dL_isProved_20 (by decide) ?_
  exact W.iret (v := 1) hx hb hr (fun t9 ht9 hW9 => ⟨⟨1, (), rfl, rfl, trivial⟩, by rw [ht9]; exact hz, fun q h1 _ => by rw [ht9]; exact hk q h1⟩) (fun _ h => absurd h List.not_mem_nil) dL_isProved_21
set_option maxHeartbeats 4000000 in
set_option maxRecDepth 100000 in
theorem w_L_setsWith (l : Launch) {D : va_G} {cI cZ cJ : ClassId} {q : Nat → Nat} {o : Nat} {f : Nat → Int64} {tc nc ac : Nat} {ch : Int32} {U : Nat → Int32} {Z : Nat → Bool} {B L F : Nat → Int32} {H : Heap} (hP : va_P D vwCl (wX cI cZ q tc nc ac ch U Z B L F ++ [(o, .inl (cJ, 1, .inr (.inl f)))]) H) (htc : tc ≤ 8) (hnc : nc ≤ 40) (hac : ac ≤ 8) (hD0 : va_D (fun _ => True) (wX cI cZ q tc nc ac ch U Z B L F ++ [(o, .inl (cJ, 1, .inr (.inl f)))])) {t : Nat} (ht : t < tc) : Met l yL_setsWith wsL_setsWith ({ frames := 3, cells := 0, slots := 0, locals := 65 }) (va_Pc [.ref (q 0), .int (nI t), .ref o] (rd D vwCl (tyA cI cZ ++ [(cJ, .long)]) H)) (va_Qi (fun r (_ : Unit) => r = 0) (fun _ t8 => va_P D vwCl (wX cI cZ q tc nc ac ch U Z B L F ++ [(o, .inl (cJ, 1, .inr (.inl (vp_updL f 0 ((nI (mt U Z nc (pw tc) ((1 : Int32) <<< (nI t &&& 31)))).toInt64)))))]) t8.heap) (va_A (wX cI cZ q tc nc ac ch U Z B L F ++ [(o, .inl (cJ, 1, .inr (.inl f)))]) H.size)) 0 0 (va_A (wX cI cZ q tc nc ac ch U Z B L F ++ [(o, .inl (cJ, 1, .inr (.inl f)))]) H.size) := by
  refine met_ofWH (cc := cL_setsWith) (maxL := 4) (ret := (some .int)) (hh := [(0, 9, 12, 25)]) (by decide) rfl ?_
  intro p e s m args below meth c s₁ B9 hml hv
  obtain ⟨rfl, hH, hK⟩ := hv
  subst hH
  have hx := B9.exec
  have hb := B9.bytes
  have hr := B9.returns
  have hts := atoms_spec (ws := wsL_setsWith) B9.pre
  have hown : s.vm.findClass RL = some m.cls := findClass_of_methodNamed B9.named
  have hK2 : va_K D vwCl (tyA cI cZ) s := hK.sub [0, 1] rfl
  have hD0 := hD0.self (sz := s.heap.size)
  generalize hAe : va_A (wX cI cZ q tc nc ac ch U Z B L F ++ [(o, .inl (cJ, 1, .inr (.inl f)))]) s.heap.size = A at hD0 ⊢
  have hA : ∀ q : Nat, s.heap.size ≤ q → A q := fun q h => by rw [← hAe]; exact Or.inr h
  have hS : va_S A s.heap s.heap [] := va_S.rf
  have hD := hD0
  have hl := lv_entry ([.ref (q 0), .int (nI t), .ref o]) (n := 4) (Nat.le_of_ble_eq_true rfl)
  rw [lg_entry_eq]
  generalize (lg_sl ([.ref (q 0), .int (nI t), .ref o]) ++ List.replicate (4 - (lg_sl ([.ref (q 0), .int (nI t), .ref o])).length) Slot.unset).toArray = ls at hl ⊢
  have hl : lv_has ls 4 [(0, .ref (q 0)), (1, .int (nI t)), (2, .ref o)] := hl
  refine lv_aload_n hx hb dL_setsWith_0 rfl (lv_at hl 2 rfl) ?_
  refine lv_iconst (v := 0) hx hb dL_setsWith_1 (by decide) ?_
  refine lv_aload_n hx hb dL_setsWith_2 rfl (lv_at hl 0 rfl) ?_
  refine lv_iload_n hx hb dL_setsWith_3 rfl (lv_at hl 1 rfl) ?_
  refine pcV_i (As := [.int (nI t)]) (rest := [.int 0, .ref o]) ⟨hx, hb, hml, hown, hts⟩ (g_X_setsWith l (P_l hP) htc hnc hac (t := t) ht) (cwV 1 hts gL_setsWith_X0_setsWith rfl rfl rfl hdX0_setsWith ⟨Nat.le_of_ble_eq_true rfl, Nat.le_of_ble_eq_true rfl⟩) (va_recv hK hP (ci := 0) (q0 := 0) rfl rfl) hK2 rfl hl.1 (Nat.le_of_ble_eq_true rfl) rfl dL_setsWith_4 ⟨Nat.le_of_ble_eq_true rfl, Nat.le_of_ble_eq_true rfl⟩ ?_
  refine lv_i2l (v := (nI (mt U Z nc (pw tc) ((1 : Int32) <<< (nI t &&& 31)))).toInt64) hx hb dL_setsWith_7 rfl ?_
  refine ll_st hx hb hK hP hD hS 7 2 rfl rfl dL_setsWith_8 (fun H locs hP hS => ?_)
  refine lv_goto (tgt := 15) hx hb dL_setsWith_9 (by decide) ?_
  have hP : va_P D vwCl (wX cI cZ q tc nc ac ch U Z B L F ++ [(o, .inl (cJ, 1, .inr (.inl (vp_updL f 0 ((nI (mt U Z nc (pw tc) ((1 : Int32) <<< (nI t &&& 31)))).toInt64)))))]) H := hP
  refine lv_iconst (v := 0) hx hb dL_setsWith_15 (by decide) ?_
  exact W.iret (v := 0) hx hb hr (fun t9 ht9 hW9 => ⟨⟨0, (), rfl, rfl, by show va_P D vwCl _ t9.heap; rw [ht9]; exact hP⟩, hS.F ht9⟩) hS.2.2 dL_setsWith_16
set_option maxHeartbeats 4000000 in
set_option maxRecDepth 100000 in
theorem wx_L_setsWith (l : Launch) (hl0 : l.stackTraces = false) {D : va_G} {cI cZ cJ : ClassId} {q : Nat → Nat} {o : Nat} {f : Nat → Int64} {tc nc ac : Nat} {ch : Int32} {U : Nat → Int32} {Z : Nat → Bool} {B L F : Nat → Int32} {H : Heap} (hP : va_P D vwCl (wX cI cZ q tc nc ac ch U Z B L F ++ [(o, .inl (cJ, 1, .inr (.inl f)))]) H) (htc : tc ≤ 8) (hnc : nc ≤ 40) (hac : ac ≤ 8) {v : Int32} (hv : v < 0 ∨ nI tc ≤ v) : Met l yL_setsWith wsL_setsWith ({ frames := 8, cells := 1, slots := 6, locals := 132 }) (va_Pc [.ref (q 0), .int v, .ref o] (rdx D vwCl (tyA cI cZ ++ [(cJ, .long)]) H)) (va_Qi (fun r (_ : Unit) => r = 1) (fun _ _ => True) (fun _ => False)) 1 6 (fun _ => False) := by
  refine met_ofWH (cc := cL_setsWith) (maxL := 4) (ret := (some .int)) (hh := [(0, 9, 12, 25)]) (by decide) rfl ?_
  intro p e s m args below meth c s₁ B9 hml hv
  obtain ⟨rfl, hH, hK, hE⟩ := hv
  subst hH
  have hx := B9.exec
  have hb := B9.bytes
  have hr := B9.returns
  have hts := atoms_spec (ws := wsL_setsWith) B9.pre
  have hown : s.vm.findClass RL = some m.cls := findClass_of_methodNamed B9.named
  have hK2 : va_K D vwCl (tyA cI cZ) s := hK.sub [0, 1] rfl
  have htb := vx_table (x := yL_setsWith) B9 (hts (.codeWith yL_setsWith cL_setsWith 4 (some .int) [(0, 9, 12, 25)]) List.mem_cons_self)
  have hl := lv_entry ([.ref (q 0), .int v, .ref o]) (n := 4) (Nat.le_of_ble_eq_true rfl)
  rw [lg_entry_eq]
  generalize (lg_sl ([.ref (q 0), .int v, .ref o]) ++ List.replicate (4 - (lg_sl ([.ref (q 0), .int v, .ref o])).length) Slot.unset).toArray = ls at hl ⊢
  have hl : lv_has ls 4 [(0, .ref (q 0)), (1, .int v), (2, .ref o)] := hl
  refine lv_aload_n hx hb dL_setsWith_0 rfl (lv_at hl 2 rfl) ?_
  refine lv_iconst (v := 0) hx hb dL_setsWith_1 (by decide) ?_
  refine lv_aload_n hx hb dL_setsWith_2 rfl (lv_at hl 0 rfl) ?_
  refine lv_iload_n hx hb dL_setsWith_3 rfl (lv_at hl 1 rfl) ?_
  refine bcV (E0 := EIO) (As := [.int v]) (rest := [.int 0, .ref o]) ⟨hx, hb, hml, hown, hts⟩ (b_X_setsWith l hl0 (P_l hP) htc hnc hac (v := v) hv) (cwV 1 hts gL_setsWith_X0_setsWith rfl rfl rfl hdX0_setsWith ⟨Nat.le_of_ble_eq_true rfl, Nat.le_of_ble_eq_true rfl⟩) (va_recv hK hP (ci := 0) (q0 := 0) rfl rfl) hK2 hE rfl hl.1 (Nat.le_of_ble_eq_true rfl) rfl dL_setsWith_4 ⟨Nat.le_of_ble_eq_true rfl, Nat.le_of_ble_eq_true rfl⟩ (fun ce q9 H1 hz hk hce hvn hcl => ?_)
  refine vx_catch (own := RL) (name := EIO) hown [] ⟨0, 9, 12, 25⟩ [] htb (fun z hz => absurd hz List.not_mem_nil) (by decide) (by decide) (hts (.classLink RL 25 EIO) (List.mem_of_getElem? (i := 1) rfl)) (xE_cast xc_EIO hE) hce hvn hcl ?_
  refine lv_astore_n (lv' := [(3, .ref q9), (0, .ref (q 0)), (1, .int v), (2, .ref o)]) hx hb dL_setsWith_12 rfl hl (by decide) rfl (fun ls hl => ?_)
  refine lv_iconst (v := 1) hx hb dL_setsWith_13 (by decide) ?_
  exact W.iret (v := 1) hx hb hr (fun t9 ht9 hW9 => ⟨⟨1, (), rfl, rfl, trivial⟩, by rw [ht9]; exact hz, fun q h1 _ => by rw [ht9]; exact hk q h1⟩) (fun _ h => absurd h List.not_mem_nil) dL_setsWith_14
set_option maxHeartbeats 4000000 in
set_option maxRecDepth 100000 in
theorem w_L_usedIn (l : Launch) {D : va_G} {cI cZ cJ : ClassId} {q : Nat → Nat} {o : Nat} {f : Nat → Int64} {tc nc ac : Nat} {ch : Int32} {U : Nat → Int32} {Z : Nat → Bool} {B L F : Nat → Int32} {H : Heap} (hP : va_P D vwCl (wX cI cZ q tc nc ac ch U Z B L F ++ [(o, .inl (cJ, 1, .inr (.inl f)))]) H) (htc : tc ≤ 8) (hnc : nc ≤ 40) (hac : ac ≤ 8) (hD0 : va_D (fun _ => True) (wX cI cZ q tc nc ac ch U Z B L F ++ [(o, .inl (cJ, 1, .inr (.inl f)))])) {t : Nat} (ht : t < nc) : Met l yL_usedIn wsL_usedIn ({ frames := 2, cells := 0, slots := 0, locals := 42 }) (va_Pc [.ref (q 0), .int (nI t), .ref o] (rd D vwCl (tyA cI cZ ++ [(cJ, .long)]) H)) (va_Qi (fun r (_ : Unit) => r = 0) (fun _ t8 => va_P D vwCl (wX cI cZ q tc nc ac ch U Z B L F ++ [(o, .inl (cJ, 1, .inr (.inl (vp_updL f 0 ((U t).toInt64)))))]) t8.heap) (va_A (wX cI cZ q tc nc ac ch U Z B L F ++ [(o, .inl (cJ, 1, .inr (.inl f)))]) H.size)) 0 0 (va_A (wX cI cZ q tc nc ac ch U Z B L F ++ [(o, .inl (cJ, 1, .inr (.inl f)))]) H.size) := by
  refine met_ofWH (cc := cL_usedIn) (maxL := 4) (ret := (some .int)) (hh := [(0, 9, 12, 25)]) (by decide) rfl ?_
  intro p e s m args below meth c s₁ B9 hml hv
  obtain ⟨rfl, hH, hK⟩ := hv
  subst hH
  have hx := B9.exec
  have hb := B9.bytes
  have hr := B9.returns
  have hts := atoms_spec (ws := wsL_usedIn) B9.pre
  have hown : s.vm.findClass RL = some m.cls := findClass_of_methodNamed B9.named
  have hK2 : va_K D vwCl (tyA cI cZ) s := hK.sub [0, 1] rfl
  have hD0 := hD0.self (sz := s.heap.size)
  generalize hAe : va_A (wX cI cZ q tc nc ac ch U Z B L F ++ [(o, .inl (cJ, 1, .inr (.inl f)))]) s.heap.size = A at hD0 ⊢
  have hA : ∀ q : Nat, s.heap.size ≤ q → A q := fun q h => by rw [← hAe]; exact Or.inr h
  have hS : va_S A s.heap s.heap [] := va_S.rf
  have hD := hD0
  have hl := lv_entry ([.ref (q 0), .int (nI t), .ref o]) (n := 4) (Nat.le_of_ble_eq_true rfl)
  rw [lg_entry_eq]
  generalize (lg_sl ([.ref (q 0), .int (nI t), .ref o]) ++ List.replicate (4 - (lg_sl ([.ref (q 0), .int (nI t), .ref o])).length) Slot.unset).toArray = ls at hl ⊢
  have hl : lv_has ls 4 [(0, .ref (q 0)), (1, .int (nI t)), (2, .ref o)] := hl
  refine lv_aload_n hx hb dL_usedIn_0 rfl (lv_at hl 2 rfl) ?_
  refine lv_iconst (v := 0) hx hb dL_usedIn_1 (by decide) ?_
  refine lv_aload_n hx hb dL_usedIn_2 rfl (lv_at hl 0 rfl) ?_
  refine lv_iload_n hx hb dL_usedIn_3 rfl (lv_at hl 1 rfl) ?_
  refine pcV_i (As := [.int (nI t)]) (rest := [.int 0, .ref o]) ⟨hx, hb, hml, hown, hts⟩ (g_X_usedIn l (P_l hP) htc hnc hac (t := t) ht) (cwV 1 hts gL_usedIn_X0_usedIn rfl rfl rfl hdX0_usedIn ⟨Nat.le_of_ble_eq_true rfl, Nat.le_of_ble_eq_true rfl⟩) (va_recv hK hP (ci := 0) (q0 := 0) rfl rfl) hK2 rfl hl.1 (Nat.le_of_ble_eq_true rfl) rfl dL_usedIn_4 ⟨Nat.le_of_ble_eq_true rfl, Nat.le_of_ble_eq_true rfl⟩ ?_
  refine lv_i2l (v := (U t).toInt64) hx hb dL_usedIn_7 rfl ?_
  refine ll_st hx hb hK hP hD hS 7 2 rfl rfl dL_usedIn_8 (fun H locs hP hS => ?_)
  refine lv_goto (tgt := 15) hx hb dL_usedIn_9 (by decide) ?_
  have hP : va_P D vwCl (wX cI cZ q tc nc ac ch U Z B L F ++ [(o, .inl (cJ, 1, .inr (.inl (vp_updL f 0 ((U t).toInt64)))))]) H := hP
  refine lv_iconst (v := 0) hx hb dL_usedIn_15 (by decide) ?_
  exact W.iret (v := 0) hx hb hr (fun t9 ht9 hW9 => ⟨⟨0, (), rfl, rfl, by show va_P D vwCl _ t9.heap; rw [ht9]; exact hP⟩, hS.F ht9⟩) hS.2.2 dL_usedIn_16
set_option maxHeartbeats 4000000 in
set_option maxRecDepth 100000 in
theorem wx_L_usedIn (l : Launch) (hl0 : l.stackTraces = false) {D : va_G} {cI cZ cJ : ClassId} {q : Nat → Nat} {o : Nat} {f : Nat → Int64} {tc nc ac : Nat} {ch : Int32} {U : Nat → Int32} {Z : Nat → Bool} {B L F : Nat → Int32} {H : Heap} (hP : va_P D vwCl (wX cI cZ q tc nc ac ch U Z B L F ++ [(o, .inl (cJ, 1, .inr (.inl f)))]) H) (htc : tc ≤ 8) (hnc : nc ≤ 40) (hac : ac ≤ 8) {v : Int32} (hv : v < 0 ∨ nI nc ≤ v) : Met l yL_usedIn wsL_usedIn ({ frames := 8, cells := 1, slots := 6, locals := 132 }) (va_Pc [.ref (q 0), .int v, .ref o] (rdx D vwCl (tyA cI cZ ++ [(cJ, .long)]) H)) (va_Qi (fun r (_ : Unit) => r = 1) (fun _ _ => True) (fun _ => False)) 1 6 (fun _ => False) := by
  refine met_ofWH (cc := cL_usedIn) (maxL := 4) (ret := (some .int)) (hh := [(0, 9, 12, 25)]) (by decide) rfl ?_
  intro p e s m args below meth c s₁ B9 hml hv
  obtain ⟨rfl, hH, hK, hE⟩ := hv
  subst hH
  have hx := B9.exec
  have hb := B9.bytes
  have hr := B9.returns
  have hts := atoms_spec (ws := wsL_usedIn) B9.pre
  have hown : s.vm.findClass RL = some m.cls := findClass_of_methodNamed B9.named
  have hK2 : va_K D vwCl (tyA cI cZ) s := hK.sub [0, 1] rfl
  have htb := vx_table (x := yL_usedIn) B9 (hts (.codeWith yL_usedIn cL_usedIn 4 (some .int) [(0, 9, 12, 25)]) List.mem_cons_self)
  have hl := lv_entry ([.ref (q 0), .int v, .ref o]) (n := 4) (Nat.le_of_ble_eq_true rfl)
  rw [lg_entry_eq]
  generalize (lg_sl ([.ref (q 0), .int v, .ref o]) ++ List.replicate (4 - (lg_sl ([.ref (q 0), .int v, .ref o])).length) Slot.unset).toArray = ls at hl ⊢
  have hl : lv_has ls 4 [(0, .ref (q 0)), (1, .int v), (2, .ref o)] := hl
  refine lv_aload_n hx hb dL_usedIn_0 rfl (lv_at hl 2 rfl) ?_
  refine lv_iconst (v := 0) hx hb dL_usedIn_1 (by decide) ?_
  refine lv_aload_n hx hb dL_usedIn_2 rfl (lv_at hl 0 rfl) ?_
  refine lv_iload_n hx hb dL_usedIn_3 rfl (lv_at hl 1 rfl) ?_
  refine bcV (E0 := EIO) (As := [.int v]) (rest := [.int 0, .ref o]) ⟨hx, hb, hml, hown, hts⟩ (b_X_usedIn l hl0 (P_l hP) htc hnc hac (v := v) hv) (cwV 1 hts gL_usedIn_X0_usedIn rfl rfl rfl hdX0_usedIn ⟨Nat.le_of_ble_eq_true rfl, Nat.le_of_ble_eq_true rfl⟩) (va_recv hK hP (ci := 0) (q0 := 0) rfl rfl) hK2 hE rfl hl.1 (Nat.le_of_ble_eq_true rfl) rfl dL_usedIn_4 ⟨Nat.le_of_ble_eq_true rfl, Nat.le_of_ble_eq_true rfl⟩ (fun ce q9 H1 hz hk hce hvn hcl => ?_)
  refine vx_catch (own := RL) (name := EIO) hown [] ⟨0, 9, 12, 25⟩ [] htb (fun z hz => absurd hz List.not_mem_nil) (by decide) (by decide) (hts (.classLink RL 25 EIO) (List.mem_of_getElem? (i := 1) rfl)) (xE_cast xc_EIO hE) hce hvn hcl ?_
  refine lv_astore_n (lv' := [(3, .ref q9), (0, .ref (q 0)), (1, .int v), (2, .ref o)]) hx hb dL_usedIn_12 rfl hl (by decide) rfl (fun ls hl => ?_)
  refine lv_iconst (v := 1) hx hb dL_usedIn_13 (by decide) ?_
  exact W.iret (v := 1) hx hb hr (fun t9 ht9 hW9 => ⟨⟨1, (), rfl, rfl, trivial⟩, by rw [ht9]; exact hz, fun q h1 _ => by rw [ht9]; exact hk q h1⟩) (fun _ h => absurd h List.not_mem_nil) dL_usedIn_14
set_option maxHeartbeats 4000000 in
set_option maxRecDepth 100000 in
theorem w_L_isSmudged (l : Launch) {D : va_G} {cI cZ cJ : ClassId} {q : Nat → Nat} {o : Nat} {f : Nat → Int64} {tc nc ac : Nat} {ch : Int32} {U : Nat → Int32} {Z : Nat → Bool} {B L F : Nat → Int32} {H : Heap} (hP : va_P D vwCl (wX cI cZ q tc nc ac ch U Z B L F ++ [(o, .inl (cJ, 1, .inr (.inl f)))]) H) (htc : tc ≤ 8) (hnc : nc ≤ 40) (hac : ac ≤ 8) (hD0 : va_D (fun _ => True) (wX cI cZ q tc nc ac ch U Z B L F ++ [(o, .inl (cJ, 1, .inr (.inl f)))])) {t : Nat} (ht : t < nc) : Met l yL_isSmudged wsL_isSmudged ({ frames := 2, cells := 0, slots := 0, locals := 42 }) (va_Pc [.ref (q 0), .int (nI t), .ref o] (rd D vwCl (tyA cI cZ ++ [(cJ, .long)]) H)) (va_Qi (fun r (_ : Unit) => r = 0) (fun _ t8 => va_P D vwCl (wX cI cZ q tc nc ac ch U Z B L F ++ [(o, .inl (cJ, 1, .inr (.inl (vp_updL f 0 ((bI (Z t)).toInt64)))))]) t8.heap) (va_A (wX cI cZ q tc nc ac ch U Z B L F ++ [(o, .inl (cJ, 1, .inr (.inl f)))]) H.size)) 0 0 (va_A (wX cI cZ q tc nc ac ch U Z B L F ++ [(o, .inl (cJ, 1, .inr (.inl f)))]) H.size) := by
  refine met_ofWH (cc := cL_isSmudged) (maxL := 4) (ret := (some .int)) (hh := [(0, 16, 19, 25)]) (by decide) rfl ?_
  intro p e s m args below meth c s₁ B9 hml hv
  obtain ⟨rfl, hH, hK⟩ := hv
  subst hH
  have hx := B9.exec
  have hb := B9.bytes
  have hr := B9.returns
  have hts := atoms_spec (ws := wsL_isSmudged) B9.pre
  have hown : s.vm.findClass RL = some m.cls := findClass_of_methodNamed B9.named
  have hK2 : va_K D vwCl (tyA cI cZ) s := hK.sub [0, 1] rfl
  have hD0 := hD0.self (sz := s.heap.size)
  generalize hAe : va_A (wX cI cZ q tc nc ac ch U Z B L F ++ [(o, .inl (cJ, 1, .inr (.inl f)))]) s.heap.size = A at hD0 ⊢
  have hA : ∀ q : Nat, s.heap.size ≤ q → A q := fun q h => by rw [← hAe]; exact Or.inr h
  have hS : va_S A s.heap s.heap [] := va_S.rf
  have hD := hD0
  have hl := lv_entry ([.ref (q 0), .int (nI t), .ref o]) (n := 4) (Nat.le_of_ble_eq_true rfl)
  rw [lg_entry_eq]
  generalize (lg_sl ([.ref (q 0), .int (nI t), .ref o]) ++ List.replicate (4 - (lg_sl ([.ref (q 0), .int (nI t), .ref o])).length) Slot.unset).toArray = ls at hl ⊢
  have hl : lv_has ls 4 [(0, .ref (q 0)), (1, .int (nI t)), (2, .ref o)] := hl
  refine lv_aload_n hx hb dL_isSmudged_0 rfl (lv_at hl 2 rfl) ?_
  refine lv_iconst (v := 0) hx hb dL_isSmudged_1 (by decide) ?_
  refine lv_aload_n hx hb dL_isSmudged_2 rfl (lv_at hl 0 rfl) ?_
  refine lv_iload_n hx hb dL_isSmudged_3 rfl (lv_at hl 1 rfl) ?_
  refine pcV_i (As := [.int (nI t)]) (rest := [.int 0, .ref o]) ⟨hx, hb, hml, hown, hts⟩ (g_X_isSmudged l (P_l hP) htc hnc hac (t := t) ht) (cwV 1 hts gL_isSmudged_X0_isSmudged rfl rfl rfl hdX0_isSmudged ⟨Nat.le_of_ble_eq_true rfl, Nat.le_of_ble_eq_true rfl⟩) (va_recv hK hP (ci := 0) (q0 := 0) rfl rfl) hK2 rfl hl.1 (Nat.le_of_ble_eq_true rfl) rfl dL_isSmudged_4 ⟨Nat.le_of_ble_eq_true rfl, Nat.le_of_ble_eq_true rfl⟩ ?_
  refine lv_bl (t0 := 14) hx hb dL_isSmudged_7 dL_isSmudged_10 dL_isSmudged_11 dL_isSmudged_14 (by decide) (by decide) ?_
  refine ll_st hx hb hK hP hD hS 7 2 rfl rfl dL_isSmudged_15 (fun H locs hP hS => ?_)
  refine lv_goto (tgt := 22) hx hb dL_isSmudged_16 (by decide) ?_
  have hP : va_P D vwCl (wX cI cZ q tc nc ac ch U Z B L F ++ [(o, .inl (cJ, 1, .inr (.inl (vp_updL f 0 ((bI (Z t)).toInt64)))))]) H := hP
  refine lv_iconst (v := 0) hx hb dL_isSmudged_22 (by decide) ?_
  exact W.iret (v := 0) hx hb hr (fun t9 ht9 hW9 => ⟨⟨0, (), rfl, rfl, by show va_P D vwCl _ t9.heap; rw [ht9]; exact hP⟩, hS.F ht9⟩) hS.2.2 dL_isSmudged_23
set_option maxHeartbeats 4000000 in
set_option maxRecDepth 100000 in
theorem wx_L_isSmudged (l : Launch) (hl0 : l.stackTraces = false) {D : va_G} {cI cZ cJ : ClassId} {q : Nat → Nat} {o : Nat} {f : Nat → Int64} {tc nc ac : Nat} {ch : Int32} {U : Nat → Int32} {Z : Nat → Bool} {B L F : Nat → Int32} {H : Heap} (hP : va_P D vwCl (wX cI cZ q tc nc ac ch U Z B L F ++ [(o, .inl (cJ, 1, .inr (.inl f)))]) H) (htc : tc ≤ 8) (hnc : nc ≤ 40) (hac : ac ≤ 8) {v : Int32} (hv : v < 0 ∨ nI nc ≤ v) : Met l yL_isSmudged wsL_isSmudged ({ frames := 8, cells := 1, slots := 6, locals := 132 }) (va_Pc [.ref (q 0), .int v, .ref o] (rdx D vwCl (tyA cI cZ ++ [(cJ, .long)]) H)) (va_Qi (fun r (_ : Unit) => r = 1) (fun _ _ => True) (fun _ => False)) 1 6 (fun _ => False) := by
  refine met_ofWH (cc := cL_isSmudged) (maxL := 4) (ret := (some .int)) (hh := [(0, 16, 19, 25)]) (by decide) rfl ?_
  intro p e s m args below meth c s₁ B9 hml hv
  obtain ⟨rfl, hH, hK, hE⟩ := hv
  subst hH
  have hx := B9.exec
  have hb := B9.bytes
  have hr := B9.returns
  have hts := atoms_spec (ws := wsL_isSmudged) B9.pre
  have hown : s.vm.findClass RL = some m.cls := findClass_of_methodNamed B9.named
  have hK2 : va_K D vwCl (tyA cI cZ) s := hK.sub [0, 1] rfl
  have htb := vx_table (x := yL_isSmudged) B9 (hts (.codeWith yL_isSmudged cL_isSmudged 4 (some .int) [(0, 16, 19, 25)]) List.mem_cons_self)
  have hl := lv_entry ([.ref (q 0), .int v, .ref o]) (n := 4) (Nat.le_of_ble_eq_true rfl)
  rw [lg_entry_eq]
  generalize (lg_sl ([.ref (q 0), .int v, .ref o]) ++ List.replicate (4 - (lg_sl ([.ref (q 0), .int v, .ref o])).length) Slot.unset).toArray = ls at hl ⊢
  have hl : lv_has ls 4 [(0, .ref (q 0)), (1, .int v), (2, .ref o)] := hl
  refine lv_aload_n hx hb dL_isSmudged_0 rfl (lv_at hl 2 rfl) ?_
  refine lv_iconst (v := 0) hx hb dL_isSmudged_1 (by decide) ?_
  refine lv_aload_n hx hb dL_isSmudged_2 rfl (lv_at hl 0 rfl) ?_
  refine lv_iload_n hx hb dL_isSmudged_3 rfl (lv_at hl 1 rfl) ?_
  refine bcV (E0 := EIO) (As := [.int v]) (rest := [.int 0, .ref o]) ⟨hx, hb, hml, hown, hts⟩ (b_X_isSmudged l hl0 (P_l hP) htc hnc hac (v := v) hv) (cwV 1 hts gL_isSmudged_X0_isSmudged rfl rfl rfl hdX0_isSmudged ⟨Nat.le_of_ble_eq_true rfl, Nat.le_of_ble_eq_true rfl⟩) (va_recv hK hP (ci := 0) (q0 := 0) rfl rfl) hK2 hE rfl hl.1 (Nat.le_of_ble_eq_true rfl) rfl dL_isSmudged_4 ⟨Nat.le_of_ble_eq_true rfl, Nat.le_of_ble_eq_true rfl⟩ (fun ce q9 H1 hz hk hce hvn hcl => ?_)
  refine vx_catch (own := RL) (name := EIO) hown [] ⟨0, 16, 19, 25⟩ [] htb (fun z hz => absurd hz List.not_mem_nil) (by decide) (by decide) (hts (.classLink RL 25 EIO) (List.mem_of_getElem? (i := 1) rfl)) (xE_cast xc_EIO hE) hce hvn hcl ?_
  refine lv_astore_n (lv' := [(3, .ref q9), (0, .ref (q 0)), (1, .int v), (2, .ref o)]) hx hb dL_isSmudged_19 rfl hl (by decide) rfl (fun ls hl => ?_)
  refine lv_iconst (v := 1) hx hb dL_isSmudged_20 (by decide) ?_
  exact W.iret (v := 1) hx hb hr (fun t9 ht9 hW9 => ⟨⟨1, (), rfl, rfl, trivial⟩, by rw [ht9]; exact hz, fun q h1 _ => by rw [ht9]; exact hk q h1⟩) (fun _ h => absurd h List.not_mem_nil) dL_isSmudged_21
set_option maxHeartbeats 4000000 in
set_option maxRecDepth 100000 in
theorem w_L_blamedBy (l : Launch) {D : va_G} {cI cZ cJ : ClassId} {q : Nat → Nat} {o : Nat} {f : Nat → Int64} {tc nc ac : Nat} {ch : Int32} {U : Nat → Int32} {Z : Nat → Bool} {B L F : Nat → Int32} {H : Heap} (hP : va_P D vwCl (wX cI cZ q tc nc ac ch U Z B L F ++ [(o, .inl (cJ, 1, .inr (.inl f)))]) H) (htc : tc ≤ 8) (hnc : nc ≤ 40) (hac : ac ≤ 8) (hD0 : va_D (fun _ => True) (wX cI cZ q tc nc ac ch U Z B L F ++ [(o, .inl (cJ, 1, .inr (.inl f)))])) {t : Nat} (ht : t < ac) : Met l yL_blamedBy wsL_blamedBy ({ frames := 2, cells := 0, slots := 0, locals := 42 }) (va_Pc [.ref (q 0), .int (nI t), .ref o] (rd D vwCl (tyA cI cZ ++ [(cJ, .long)]) H)) (va_Qi (fun r (_ : Unit) => r = 0) (fun _ t8 => va_P D vwCl (wX cI cZ q tc nc ac ch U Z B L F ++ [(o, .inl (cJ, 1, .inr (.inl (vp_updL f 0 ((B t).toInt64)))))]) t8.heap) (va_A (wX cI cZ q tc nc ac ch U Z B L F ++ [(o, .inl (cJ, 1, .inr (.inl f)))]) H.size)) 0 0 (va_A (wX cI cZ q tc nc ac ch U Z B L F ++ [(o, .inl (cJ, 1, .inr (.inl f)))]) H.size) := by
  refine met_ofWH (cc := cL_blamedBy) (maxL := 4) (ret := (some .int)) (hh := [(0, 9, 12, 25)]) (by decide) rfl ?_
  intro p e s m args below meth c s₁ B9 hml hv
  obtain ⟨rfl, hH, hK⟩ := hv
  subst hH
  have hx := B9.exec
  have hb := B9.bytes
  have hr := B9.returns
  have hts := atoms_spec (ws := wsL_blamedBy) B9.pre
  have hown : s.vm.findClass RL = some m.cls := findClass_of_methodNamed B9.named
  have hK2 : va_K D vwCl (tyA cI cZ) s := hK.sub [0, 1] rfl
  have hD0 := hD0.self (sz := s.heap.size)
  generalize hAe : va_A (wX cI cZ q tc nc ac ch U Z B L F ++ [(o, .inl (cJ, 1, .inr (.inl f)))]) s.heap.size = A at hD0 ⊢
  have hA : ∀ q : Nat, s.heap.size ≤ q → A q := fun q h => by rw [← hAe]; exact Or.inr h
  have hS : va_S A s.heap s.heap [] := va_S.rf
  have hD := hD0
  have hl := lv_entry ([.ref (q 0), .int (nI t), .ref o]) (n := 4) (Nat.le_of_ble_eq_true rfl)
  rw [lg_entry_eq]
  generalize (lg_sl ([.ref (q 0), .int (nI t), .ref o]) ++ List.replicate (4 - (lg_sl ([.ref (q 0), .int (nI t), .ref o])).length) Slot.unset).toArray = ls at hl ⊢
  have hl : lv_has ls 4 [(0, .ref (q 0)), (1, .int (nI t)), (2, .ref o)] := hl
  refine lv_aload_n hx hb dL_blamedBy_0 rfl (lv_at hl 2 rfl) ?_
  refine lv_iconst (v := 0) hx hb dL_blamedBy_1 (by decide) ?_
  refine lv_aload_n hx hb dL_blamedBy_2 rfl (lv_at hl 0 rfl) ?_
  refine lv_iload_n hx hb dL_blamedBy_3 rfl (lv_at hl 1 rfl) ?_
  refine pcV_i (As := [.int (nI t)]) (rest := [.int 0, .ref o]) ⟨hx, hb, hml, hown, hts⟩ (g_X_blamedBy l (P_l hP) htc hnc hac (t := t) ht) (cwV 1 hts gL_blamedBy_X0_blamedBy rfl rfl rfl hdX0_blamedBy ⟨Nat.le_of_ble_eq_true rfl, Nat.le_of_ble_eq_true rfl⟩) (va_recv hK hP (ci := 0) (q0 := 0) rfl rfl) hK2 rfl hl.1 (Nat.le_of_ble_eq_true rfl) rfl dL_blamedBy_4 ⟨Nat.le_of_ble_eq_true rfl, Nat.le_of_ble_eq_true rfl⟩ ?_
  refine lv_i2l (v := (B t).toInt64) hx hb dL_blamedBy_7 rfl ?_
  refine ll_st hx hb hK hP hD hS 7 2 rfl rfl dL_blamedBy_8 (fun H locs hP hS => ?_)
  refine lv_goto (tgt := 15) hx hb dL_blamedBy_9 (by decide) ?_
  have hP : va_P D vwCl (wX cI cZ q tc nc ac ch U Z B L F ++ [(o, .inl (cJ, 1, .inr (.inl (vp_updL f 0 ((B t).toInt64)))))]) H := hP
  refine lv_iconst (v := 0) hx hb dL_blamedBy_15 (by decide) ?_
  exact W.iret (v := 0) hx hb hr (fun t9 ht9 hW9 => ⟨⟨0, (), rfl, rfl, by show va_P D vwCl _ t9.heap; rw [ht9]; exact hP⟩, hS.F ht9⟩) hS.2.2 dL_blamedBy_16
set_option maxHeartbeats 4000000 in
set_option maxRecDepth 100000 in
theorem wx_L_blamedBy (l : Launch) (hl0 : l.stackTraces = false) {D : va_G} {cI cZ cJ : ClassId} {q : Nat → Nat} {o : Nat} {f : Nat → Int64} {tc nc ac : Nat} {ch : Int32} {U : Nat → Int32} {Z : Nat → Bool} {B L F : Nat → Int32} {H : Heap} (hP : va_P D vwCl (wX cI cZ q tc nc ac ch U Z B L F ++ [(o, .inl (cJ, 1, .inr (.inl f)))]) H) (htc : tc ≤ 8) (hnc : nc ≤ 40) (hac : ac ≤ 8) {v : Int32} (hv : v < 0 ∨ nI ac ≤ v) : Met l yL_blamedBy wsL_blamedBy ({ frames := 8, cells := 1, slots := 6, locals := 132 }) (va_Pc [.ref (q 0), .int v, .ref o] (rdx D vwCl (tyA cI cZ ++ [(cJ, .long)]) H)) (va_Qi (fun r (_ : Unit) => r = 1) (fun _ _ => True) (fun _ => False)) 1 6 (fun _ => False) := by
  refine met_ofWH (cc := cL_blamedBy) (maxL := 4) (ret := (some .int)) (hh := [(0, 9, 12, 25)]) (by decide) rfl ?_
  intro p e s m args below meth c s₁ B9 hml hv
  obtain ⟨rfl, hH, hK, hE⟩ := hv
  subst hH
  have hx := B9.exec
  have hb := B9.bytes
  have hr := B9.returns
  have hts := atoms_spec (ws := wsL_blamedBy) B9.pre
  have hown : s.vm.findClass RL = some m.cls := findClass_of_methodNamed B9.named
  have hK2 : va_K D vwCl (tyA cI cZ) s := hK.sub [0, 1] rfl
  have htb := vx_table (x := yL_blamedBy) B9 (hts (.codeWith yL_blamedBy cL_blamedBy 4 (some .int) [(0, 9, 12, 25)]) List.mem_cons_self)
  have hl := lv_entry ([.ref (q 0), .int v, .ref o]) (n := 4) (Nat.le_of_ble_eq_true rfl)
  rw [lg_entry_eq]
  generalize (lg_sl ([.ref (q 0), .int v, .ref o]) ++ List.replicate (4 - (lg_sl ([.ref (q 0), .int v, .ref o])).length) Slot.unset).toArray = ls at hl ⊢
  have hl : lv_has ls 4 [(0, .ref (q 0)), (1, .int v), (2, .ref o)] := hl
  refine lv_aload_n hx hb dL_blamedBy_0 rfl (lv_at hl 2 rfl) ?_
  refine lv_iconst (v := 0) hx hb dL_blamedBy_1 (by decide) ?_
  refine lv_aload_n hx hb dL_blamedBy_2 rfl (lv_at hl 0 rfl) ?_
  refine lv_iload_n hx hb dL_blamedBy_3 rfl (lv_at hl 1 rfl) ?_
  refine bcV (E0 := EIO) (As := [.int v]) (rest := [.int 0, .ref o]) ⟨hx, hb, hml, hown, hts⟩ (b_X_blamedBy l hl0 (P_l hP) htc hnc hac (v := v) hv) (cwV 1 hts gL_blamedBy_X0_blamedBy rfl rfl rfl hdX0_blamedBy ⟨Nat.le_of_ble_eq_true rfl, Nat.le_of_ble_eq_true rfl⟩) (va_recv hK hP (ci := 0) (q0 := 0) rfl rfl) hK2 hE rfl hl.1 (Nat.le_of_ble_eq_true rfl) rfl dL_blamedBy_4 ⟨Nat.le_of_ble_eq_true rfl, Nat.le_of_ble_eq_true rfl⟩ (fun ce q9 H1 hz hk hce hvn hcl => ?_)
  refine vx_catch (own := RL) (name := EIO) hown [] ⟨0, 9, 12, 25⟩ [] htb (fun z hz => absurd hz List.not_mem_nil) (by decide) (by decide) (hts (.classLink RL 25 EIO) (List.mem_of_getElem? (i := 1) rfl)) (xE_cast xc_EIO hE) hce hvn hcl ?_
  refine lv_astore_n (lv' := [(3, .ref q9), (0, .ref (q 0)), (1, .int v), (2, .ref o)]) hx hb dL_blamedBy_12 rfl hl (by decide) rfl (fun ls hl => ?_)
  refine lv_iconst (v := 1) hx hb dL_blamedBy_13 (by decide) ?_
  exact W.iret (v := 1) hx hb hr (fun t9 ht9 hW9 => ⟨⟨1, (), rfl, rfl, trivial⟩, by rw [ht9]; exact hz, fun q h1 _ => by rw [ht9]; exact hk q h1⟩) (fun _ h => absurd h List.not_mem_nil) dL_blamedBy_14
set_option maxHeartbeats 4000000 in
set_option maxRecDepth 100000 in
theorem w_L_stubbornnessOf (l : Launch) {D : va_G} {cI cZ cJ : ClassId} {q : Nat → Nat} {o : Nat} {f : Nat → Int64} {tc nc ac : Nat} {ch : Int32} {U : Nat → Int32} {Z : Nat → Bool} {B L F : Nat → Int32} {H : Heap} (hP : va_P D vwCl (wX cI cZ q tc nc ac ch U Z B L F ++ [(o, .inl (cJ, 1, .inr (.inl f)))]) H) (htc : tc ≤ 8) (hnc : nc ≤ 40) (hac : ac ≤ 8) (hD0 : va_D (fun _ => True) (wX cI cZ q tc nc ac ch U Z B L F ++ [(o, .inl (cJ, 1, .inr (.inl f)))])) {t : Nat} (ht : t < ac) : Met l yL_stubbornnessOf wsL_stubbornnessOf ({ frames := 2, cells := 0, slots := 0, locals := 42 }) (va_Pc [.ref (q 0), .int (nI t), .ref o] (rd D vwCl (tyA cI cZ ++ [(cJ, .long)]) H)) (va_Qi (fun r (_ : Unit) => r = 0) (fun _ t8 => va_P D vwCl (wX cI cZ q tc nc ac ch U Z B L F ++ [(o, .inl (cJ, 1, .inr (.inl (vp_updL f 0 ((L t).toInt64)))))]) t8.heap) (va_A (wX cI cZ q tc nc ac ch U Z B L F ++ [(o, .inl (cJ, 1, .inr (.inl f)))]) H.size)) 0 0 (va_A (wX cI cZ q tc nc ac ch U Z B L F ++ [(o, .inl (cJ, 1, .inr (.inl f)))]) H.size) := by
  refine met_ofWH (cc := cL_stubbornnessOf) (maxL := 4) (ret := (some .int)) (hh := [(0, 9, 12, 25)]) (by decide) rfl ?_
  intro p e s m args below meth c s₁ B9 hml hv
  obtain ⟨rfl, hH, hK⟩ := hv
  subst hH
  have hx := B9.exec
  have hb := B9.bytes
  have hr := B9.returns
  have hts := atoms_spec (ws := wsL_stubbornnessOf) B9.pre
  have hown : s.vm.findClass RL = some m.cls := findClass_of_methodNamed B9.named
  have hK2 : va_K D vwCl (tyA cI cZ) s := hK.sub [0, 1] rfl
  have hD0 := hD0.self (sz := s.heap.size)
  generalize hAe : va_A (wX cI cZ q tc nc ac ch U Z B L F ++ [(o, .inl (cJ, 1, .inr (.inl f)))]) s.heap.size = A at hD0 ⊢
  have hA : ∀ q : Nat, s.heap.size ≤ q → A q := fun q h => by rw [← hAe]; exact Or.inr h
  have hS : va_S A s.heap s.heap [] := va_S.rf
  have hD := hD0
  have hl := lv_entry ([.ref (q 0), .int (nI t), .ref o]) (n := 4) (Nat.le_of_ble_eq_true rfl)
  rw [lg_entry_eq]
  generalize (lg_sl ([.ref (q 0), .int (nI t), .ref o]) ++ List.replicate (4 - (lg_sl ([.ref (q 0), .int (nI t), .ref o])).length) Slot.unset).toArray = ls at hl ⊢
  have hl : lv_has ls 4 [(0, .ref (q 0)), (1, .int (nI t)), (2, .ref o)] := hl
  refine lv_aload_n hx hb dL_stubbornnessOf_0 rfl (lv_at hl 2 rfl) ?_
  refine lv_iconst (v := 0) hx hb dL_stubbornnessOf_1 (by decide) ?_
  refine lv_aload_n hx hb dL_stubbornnessOf_2 rfl (lv_at hl 0 rfl) ?_
  refine lv_iload_n hx hb dL_stubbornnessOf_3 rfl (lv_at hl 1 rfl) ?_
  refine pcV_i (As := [.int (nI t)]) (rest := [.int 0, .ref o]) ⟨hx, hb, hml, hown, hts⟩ (g_X_stubbornnessOf l (P_l hP) htc hnc hac (t := t) ht) (cwV 1 hts gL_stubbornnessOf_X0_stubbornnessOf rfl rfl rfl hdX0_stubbornnessOf ⟨Nat.le_of_ble_eq_true rfl, Nat.le_of_ble_eq_true rfl⟩) (va_recv hK hP (ci := 0) (q0 := 0) rfl rfl) hK2 rfl hl.1 (Nat.le_of_ble_eq_true rfl) rfl dL_stubbornnessOf_4 ⟨Nat.le_of_ble_eq_true rfl, Nat.le_of_ble_eq_true rfl⟩ ?_
  refine lv_i2l (v := (L t).toInt64) hx hb dL_stubbornnessOf_7 rfl ?_
  refine ll_st hx hb hK hP hD hS 7 2 rfl rfl dL_stubbornnessOf_8 (fun H locs hP hS => ?_)
  refine lv_goto (tgt := 15) hx hb dL_stubbornnessOf_9 (by decide) ?_
  have hP : va_P D vwCl (wX cI cZ q tc nc ac ch U Z B L F ++ [(o, .inl (cJ, 1, .inr (.inl (vp_updL f 0 ((L t).toInt64)))))]) H := hP
  refine lv_iconst (v := 0) hx hb dL_stubbornnessOf_15 (by decide) ?_
  exact W.iret (v := 0) hx hb hr (fun t9 ht9 hW9 => ⟨⟨0, (), rfl, rfl, by show va_P D vwCl _ t9.heap; rw [ht9]; exact hP⟩, hS.F ht9⟩) hS.2.2 dL_stubbornnessOf_16
set_option maxHeartbeats 4000000 in
set_option maxRecDepth 100000 in
theorem wx_L_stubbornnessOf (l : Launch) (hl0 : l.stackTraces = false) {D : va_G} {cI cZ cJ : ClassId} {q : Nat → Nat} {o : Nat} {f : Nat → Int64} {tc nc ac : Nat} {ch : Int32} {U : Nat → Int32} {Z : Nat → Bool} {B L F : Nat → Int32} {H : Heap} (hP : va_P D vwCl (wX cI cZ q tc nc ac ch U Z B L F ++ [(o, .inl (cJ, 1, .inr (.inl f)))]) H) (htc : tc ≤ 8) (hnc : nc ≤ 40) (hac : ac ≤ 8) {v : Int32} (hv : v < 0 ∨ nI ac ≤ v) : Met l yL_stubbornnessOf wsL_stubbornnessOf ({ frames := 8, cells := 1, slots := 6, locals := 132 }) (va_Pc [.ref (q 0), .int v, .ref o] (rdx D vwCl (tyA cI cZ ++ [(cJ, .long)]) H)) (va_Qi (fun r (_ : Unit) => r = 1) (fun _ _ => True) (fun _ => False)) 1 6 (fun _ => False) := by
  refine met_ofWH (cc := cL_stubbornnessOf) (maxL := 4) (ret := (some .int)) (hh := [(0, 9, 12, 25)]) (by decide) rfl ?_
  intro p e s m args below meth c s₁ B9 hml hv
  obtain ⟨rfl, hH, hK, hE⟩ := hv
  subst hH
  have hx := B9.exec
  have hb := B9.bytes
  have hr := B9.returns
  have hts := atoms_spec (ws := wsL_stubbornnessOf) B9.pre
  have hown : s.vm.findClass RL = some m.cls := findClass_of_methodNamed B9.named
  have hK2 : va_K D vwCl (tyA cI cZ) s := hK.sub [0, 1] rfl
  have htb := vx_table (x := yL_stubbornnessOf) B9 (hts (.codeWith yL_stubbornnessOf cL_stubbornnessOf 4 (some .int) [(0, 9, 12, 25)]) List.mem_cons_self)
  have hl := lv_entry ([.ref (q 0), .int v, .ref o]) (n := 4) (Nat.le_of_ble_eq_true rfl)
  rw [lg_entry_eq]
  generalize (lg_sl ([.ref (q 0), .int v, .ref o]) ++ List.replicate (4 - (lg_sl ([.ref (q 0), .int v, .ref o])).length) Slot.unset).toArray = ls at hl ⊢
  have hl : lv_has ls 4 [(0, .ref (q 0)), (1, .int v), (2, .ref o)] := hl
  refine lv_aload_n hx hb dL_stubbornnessOf_0 rfl (lv_at hl 2 rfl) ?_
  refine lv_iconst (v := 0) hx hb dL_stubbornnessOf_1 (by decide) ?_
  refine lv_aload_n hx hb dL_stubbornnessOf_2 rfl (lv_at hl 0 rfl) ?_
  refine lv_iload_n hx hb dL_stubbornnessOf_3 rfl (lv_at hl 1 rfl) ?_
  refine bcV (E0 := EIO) (As := [.int v]) (rest := [.int 0, .ref o]) ⟨hx, hb, hml, hown, hts⟩ (b_X_stubbornnessOf l hl0 (P_l hP) htc hnc hac (v := v) hv) (cwV 1 hts gL_stubbornnessOf_X0_stubbornnessOf rfl rfl rfl hdX0_stubbornnessOf ⟨Nat.le_of_ble_eq_true rfl, Nat.le_of_ble_eq_true rfl⟩) (va_recv hK hP (ci := 0) (q0 := 0) rfl rfl) hK2 hE rfl hl.1 (Nat.le_of_ble_eq_true rfl) rfl dL_stubbornnessOf_4 ⟨Nat.le_of_ble_eq_true rfl, Nat.le_of_ble_eq_true rfl⟩ (fun ce q9 H1 hz hk hce hvn hcl => ?_)
  refine vx_catch (own := RL) (name := EIO) hown [] ⟨0, 9, 12, 25⟩ [] htb (fun z hz => absurd hz List.not_mem_nil) (by decide) (by decide) (hts (.classLink RL 25 EIO) (List.mem_of_getElem? (i := 1) rfl)) (xE_cast xc_EIO hE) hce hvn hcl ?_
  refine lv_astore_n (lv' := [(3, .ref q9), (0, .ref (q 0)), (1, .int v), (2, .ref o)]) hx hb dL_stubbornnessOf_12 rfl hl (by decide) rfl (fun ls hl => ?_)
  refine lv_iconst (v := 1) hx hb dL_stubbornnessOf_13 (by decide) ?_
  exact W.iret (v := 1) hx hb hr (fun t9 ht9 hW9 => ⟨⟨1, (), rfl, rfl, trivial⟩, by rw [ht9]; exact hz, fun q h1 _ => by rw [ht9]; exact hk q h1⟩) (fun _ h => absurd h List.not_mem_nil) dL_stubbornnessOf_14
set_option maxHeartbeats 4000000 in
set_option maxRecDepth 100000 in
theorem w_L_unexplainedBy (l : Launch) {D : va_G} {cI cZ cJ : ClassId} {q : Nat → Nat} {o : Nat} {f : Nat → Int64} {tc nc ac : Nat} {ch : Int32} {U : Nat → Int32} {Z : Nat → Bool} {B L F : Nat → Int32} {H : Heap} (hP : va_P D vwCl (wX cI cZ q tc nc ac ch U Z B L F ++ [(o, .inl (cJ, 1, .inr (.inl f)))]) H) (htc : tc ≤ 8) (hnc : nc ≤ 40) (hac : ac ≤ 8) (hD0 : va_D (fun _ => True) (wX cI cZ q tc nc ac ch U Z B L F ++ [(o, .inl (cJ, 1, .inr (.inl f)))])) {t k : Nat} (ht : t < ac) (hk : k < 256) (hB : B t = nI k) : Met l yL_unexplainedBy wsL_unexplainedBy ({ frames := 2, cells := 0, slots := 0, locals := 42 }) (va_Pc [.ref (q 0), .int (nI t), .ref o] (rd D vwCl (tyA cI cZ ++ [(cJ, .long)]) H)) (va_Qi (fun r (_ : Unit) => r = 0) (fun _ t8 => va_P D vwCl (wX cI cZ q tc nc ac ch U Z B L F ++ [(o, .inl (cJ, 1, .inr (.inl (vp_updL f 0 ((nI (un U Z (B t) nc)).toInt64)))))]) t8.heap) (va_A (wX cI cZ q tc nc ac ch U Z B L F ++ [(o, .inl (cJ, 1, .inr (.inl f)))]) H.size)) 0 0 (va_A (wX cI cZ q tc nc ac ch U Z B L F ++ [(o, .inl (cJ, 1, .inr (.inl f)))]) H.size) := by
  refine met_ofWH (cc := cL_unexplainedBy) (maxL := 4) (ret := (some .int)) (hh := [(0, 9, 12, 25)]) (by decide) rfl ?_
  intro p e s m args below meth c s₁ B9 hml hv
  obtain ⟨rfl, hH, hK⟩ := hv
  subst hH
  have hx := B9.exec
  have hb := B9.bytes
  have hr := B9.returns
  have hts := atoms_spec (ws := wsL_unexplainedBy) B9.pre
  have hown : s.vm.findClass RL = some m.cls := findClass_of_methodNamed B9.named
  have hK2 : va_K D vwCl (tyA cI cZ) s := hK.sub [0, 1] rfl
  have hD0 := hD0.self (sz := s.heap.size)
  generalize hAe : va_A (wX cI cZ q tc nc ac ch U Z B L F ++ [(o, .inl (cJ, 1, .inr (.inl f)))]) s.heap.size = A at hD0 ⊢
  have hA : ∀ q : Nat, s.heap.size ≤ q → A q := fun q h => by rw [← hAe]; exact Or.inr h
  have hS : va_S A s.heap s.heap [] := va_S.rf
  have hD := hD0
  have hl := lv_entry ([.ref (q 0), .int (nI t), .ref o]) (n := 4) (Nat.le_of_ble_eq_true rfl)
  rw [lg_entry_eq]
  generalize (lg_sl ([.ref (q 0), .int (nI t), .ref o]) ++ List.replicate (4 - (lg_sl ([.ref (q 0), .int (nI t), .ref o])).length) Slot.unset).toArray = ls at hl ⊢
  have hl : lv_has ls 4 [(0, .ref (q 0)), (1, .int (nI t)), (2, .ref o)] := hl
  refine lv_aload_n hx hb dL_unexplainedBy_0 rfl (lv_at hl 2 rfl) ?_
  refine lv_iconst (v := 0) hx hb dL_unexplainedBy_1 (by decide) ?_
  refine lv_aload_n hx hb dL_unexplainedBy_2 rfl (lv_at hl 0 rfl) ?_
  refine lv_iload_n hx hb dL_unexplainedBy_3 rfl (lv_at hl 1 rfl) ?_
  refine pcV_i (As := [.int (nI t)]) (rest := [.int 0, .ref o]) ⟨hx, hb, hml, hown, hts⟩ (g_X_unexplainedBy l (P_l hP) htc hnc hac (t := t) (k := k) ht hk hB) (cwV 1 hts gL_unexplainedBy_X0_unexplainedBy rfl rfl rfl hdX0_unexplainedBy ⟨Nat.le_of_ble_eq_true rfl, Nat.le_of_ble_eq_true rfl⟩) (va_recv hK hP (ci := 0) (q0 := 0) rfl rfl) hK2 rfl hl.1 (Nat.le_of_ble_eq_true rfl) rfl dL_unexplainedBy_4 ⟨Nat.le_of_ble_eq_true rfl, Nat.le_of_ble_eq_true rfl⟩ ?_
  refine lv_i2l (v := (nI (un U Z (B t) nc)).toInt64) hx hb dL_unexplainedBy_7 rfl ?_
  refine ll_st hx hb hK hP hD hS 7 2 rfl rfl dL_unexplainedBy_8 (fun H locs hP hS => ?_)
  refine lv_goto (tgt := 15) hx hb dL_unexplainedBy_9 (by decide) ?_
  have hP : va_P D vwCl (wX cI cZ q tc nc ac ch U Z B L F ++ [(o, .inl (cJ, 1, .inr (.inl (vp_updL f 0 ((nI (un U Z (B t) nc)).toInt64)))))]) H := hP
  refine lv_iconst (v := 0) hx hb dL_unexplainedBy_15 (by decide) ?_
  exact W.iret (v := 0) hx hb hr (fun t9 ht9 hW9 => ⟨⟨0, (), rfl, rfl, by show va_P D vwCl _ t9.heap; rw [ht9]; exact hP⟩, hS.F ht9⟩) hS.2.2 dL_unexplainedBy_16
set_option maxHeartbeats 4000000 in
set_option maxRecDepth 100000 in
theorem wx_L_unexplainedBy (l : Launch) (hl0 : l.stackTraces = false) {D : va_G} {cI cZ cJ : ClassId} {q : Nat → Nat} {o : Nat} {f : Nat → Int64} {tc nc ac : Nat} {ch : Int32} {U : Nat → Int32} {Z : Nat → Bool} {B L F : Nat → Int32} {H : Heap} (hP : va_P D vwCl (wX cI cZ q tc nc ac ch U Z B L F ++ [(o, .inl (cJ, 1, .inr (.inl f)))]) H) (htc : tc ≤ 8) (hnc : nc ≤ 40) (hac : ac ≤ 8) {v : Int32} (hv : v < 0 ∨ nI ac ≤ v) : Met l yL_unexplainedBy wsL_unexplainedBy ({ frames := 8, cells := 1, slots := 6, locals := 132 }) (va_Pc [.ref (q 0), .int v, .ref o] (rdx D vwCl (tyA cI cZ ++ [(cJ, .long)]) H)) (va_Qi (fun r (_ : Unit) => r = 1) (fun _ _ => True) (fun _ => False)) 1 6 (fun _ => False) := by
  refine met_ofWH (cc := cL_unexplainedBy) (maxL := 4) (ret := (some .int)) (hh := [(0, 9, 12, 25)]) (by decide) rfl ?_
  intro p e s m args below meth c s₁ B9 hml hv
  obtain ⟨rfl, hH, hK, hE⟩ := hv
  subst hH
  have hx := B9.exec
  have hb := B9.bytes
  have hr := B9.returns
  have hts := atoms_spec (ws := wsL_unexplainedBy) B9.pre
  have hown : s.vm.findClass RL = some m.cls := findClass_of_methodNamed B9.named
  have hK2 : va_K D vwCl (tyA cI cZ) s := hK.sub [0, 1] rfl
  have htb := vx_table (x := yL_unexplainedBy) B9 (hts (.codeWith yL_unexplainedBy cL_unexplainedBy 4 (some .int) [(0, 9, 12, 25)]) List.mem_cons_self)
  have hl := lv_entry ([.ref (q 0), .int v, .ref o]) (n := 4) (Nat.le_of_ble_eq_true rfl)
  rw [lg_entry_eq]
  generalize (lg_sl ([.ref (q 0), .int v, .ref o]) ++ List.replicate (4 - (lg_sl ([.ref (q 0), .int v, .ref o])).length) Slot.unset).toArray = ls at hl ⊢
  have hl : lv_has ls 4 [(0, .ref (q 0)), (1, .int v), (2, .ref o)] := hl
  refine lv_aload_n hx hb dL_unexplainedBy_0 rfl (lv_at hl 2 rfl) ?_
  refine lv_iconst (v := 0) hx hb dL_unexplainedBy_1 (by decide) ?_
  refine lv_aload_n hx hb dL_unexplainedBy_2 rfl (lv_at hl 0 rfl) ?_
  refine lv_iload_n hx hb dL_unexplainedBy_3 rfl (lv_at hl 1 rfl) ?_
  refine bcV (E0 := EIO) (As := [.int v]) (rest := [.int 0, .ref o]) ⟨hx, hb, hml, hown, hts⟩ (b_X_unexplainedBy l hl0 (P_l hP) htc hnc hac (v := v) hv) (cwV 1 hts gL_unexplainedBy_X0_unexplainedBy rfl rfl rfl hdX0_unexplainedBy ⟨Nat.le_of_ble_eq_true rfl, Nat.le_of_ble_eq_true rfl⟩) (va_recv hK hP (ci := 0) (q0 := 0) rfl rfl) hK2 hE rfl hl.1 (Nat.le_of_ble_eq_true rfl) rfl dL_unexplainedBy_4 ⟨Nat.le_of_ble_eq_true rfl, Nat.le_of_ble_eq_true rfl⟩ (fun ce q9 H1 hz hk hce hvn hcl => ?_)
  refine vx_catch (own := RL) (name := EIO) hown [] ⟨0, 9, 12, 25⟩ [] htb (fun z hz => absurd hz List.not_mem_nil) (by decide) (by decide) (hts (.classLink RL 25 EIO) (List.mem_of_getElem? (i := 1) rfl)) (xE_cast xc_EIO hE) hce hvn hcl ?_
  refine lv_astore_n (lv' := [(3, .ref q9), (0, .ref (q 0)), (1, .int v), (2, .ref o)]) hx hb dL_unexplainedBy_12 rfl hl (by decide) rfl (fun ls hl => ?_)
  refine lv_iconst (v := 1) hx hb dL_unexplainedBy_13 (by decide) ?_
  exact W.iret (v := 1) hx hb hr (fun t9 ht9 hW9 => ⟨⟨1, (), rfl, rfl, trivial⟩, by rw [ht9]; exact hz, fun q h1 _ => by rw [ht9]; exact hk q h1⟩) (fun _ h => absurd h List.not_mem_nil) dL_unexplainedBy_14
set_option maxHeartbeats 4000000 in
set_option maxRecDepth 100000 in
theorem w_L_votesFor (l : Launch) {D : va_G} {cI cZ cJ : ClassId} {q : Nat → Nat} {o : Nat} {f : Nat → Int64} {tc nc ac : Nat} {ch : Int32} {U : Nat → Int32} {Z : Nat → Bool} {B L F : Nat → Int32} {H : Heap} (hP : va_P D vwCl (wX cI cZ q tc nc ac ch U Z B L F ++ [(o, .inl (cJ, 1, .inr (.inl f)))]) H) (htc : tc ≤ 8) (hnc : nc ≤ 40) (hac : ac ≤ 8) (hD0 : va_D (fun _ => True) (wX cI cZ q tc nc ac ch U Z B L F ++ [(o, .inl (cJ, 1, .inr (.inl f)))])) {t : Nat} (ht : t < tc) : Met l yL_votesFor wsL_votesFor ({ frames := 3, cells := 0, slots := 0, locals := 64 }) (va_Pc [.ref (q 0), .int (nI t), .ref o] (rd D vwCl (tyA cI cZ ++ [(cJ, .long)]) H)) (va_Qi (fun r (_ : Unit) => r = 0) (fun _ t8 => va_P D vwCl (wX cI cZ q tc nc ac ch U Z B L F ++ [(o, .inl (cJ, 1, .inr (.inl (vp_updL f 0 ((nI (ct (fun a => ho (B a) (nI t)) ac)).toInt64)))))]) t8.heap) (va_A (wX cI cZ q tc nc ac ch U Z B L F ++ [(o, .inl (cJ, 1, .inr (.inl f)))]) H.size)) 0 0 (va_A (wX cI cZ q tc nc ac ch U Z B L F ++ [(o, .inl (cJ, 1, .inr (.inl f)))]) H.size) := by
  refine met_ofWH (cc := cL_votesFor) (maxL := 4) (ret := (some .int)) (hh := [(0, 9, 12, 25)]) (by decide) rfl ?_
  intro p e s m args below meth c s₁ B9 hml hv
  obtain ⟨rfl, hH, hK⟩ := hv
  subst hH
  have hx := B9.exec
  have hb := B9.bytes
  have hr := B9.returns
  have hts := atoms_spec (ws := wsL_votesFor) B9.pre
  have hown : s.vm.findClass RL = some m.cls := findClass_of_methodNamed B9.named
  have hK2 : va_K D vwCl (tyA cI cZ) s := hK.sub [0, 1] rfl
  have hD0 := hD0.self (sz := s.heap.size)
  generalize hAe : va_A (wX cI cZ q tc nc ac ch U Z B L F ++ [(o, .inl (cJ, 1, .inr (.inl f)))]) s.heap.size = A at hD0 ⊢
  have hA : ∀ q : Nat, s.heap.size ≤ q → A q := fun q h => by rw [← hAe]; exact Or.inr h
  have hS : va_S A s.heap s.heap [] := va_S.rf
  have hD := hD0
  have hl := lv_entry ([.ref (q 0), .int (nI t), .ref o]) (n := 4) (Nat.le_of_ble_eq_true rfl)
  rw [lg_entry_eq]
  generalize (lg_sl ([.ref (q 0), .int (nI t), .ref o]) ++ List.replicate (4 - (lg_sl ([.ref (q 0), .int (nI t), .ref o])).length) Slot.unset).toArray = ls at hl ⊢
  have hl : lv_has ls 4 [(0, .ref (q 0)), (1, .int (nI t)), (2, .ref o)] := hl
  refine lv_aload_n hx hb dL_votesFor_0 rfl (lv_at hl 2 rfl) ?_
  refine lv_iconst (v := 0) hx hb dL_votesFor_1 (by decide) ?_
  refine lv_aload_n hx hb dL_votesFor_2 rfl (lv_at hl 0 rfl) ?_
  refine lv_iload_n hx hb dL_votesFor_3 rfl (lv_at hl 1 rfl) ?_
  refine pcV_i (As := [.int (nI t)]) (rest := [.int 0, .ref o]) ⟨hx, hb, hml, hown, hts⟩ (g_X_votesFor l (P_l hP) htc hnc hac (t := t) ht) (cwV 1 hts gL_votesFor_X0_votesFor rfl rfl rfl hdX0_votesFor ⟨Nat.le_of_ble_eq_true rfl, Nat.le_of_ble_eq_true rfl⟩) (va_recv hK hP (ci := 0) (q0 := 0) rfl rfl) hK2 rfl hl.1 (Nat.le_of_ble_eq_true rfl) rfl dL_votesFor_4 ⟨Nat.le_of_ble_eq_true rfl, Nat.le_of_ble_eq_true rfl⟩ ?_
  refine lv_i2l (v := (nI (ct (fun a => ho (B a) (nI t)) ac)).toInt64) hx hb dL_votesFor_7 rfl ?_
  refine ll_st hx hb hK hP hD hS 7 2 rfl rfl dL_votesFor_8 (fun H locs hP hS => ?_)
  refine lv_goto (tgt := 15) hx hb dL_votesFor_9 (by decide) ?_
  have hP : va_P D vwCl (wX cI cZ q tc nc ac ch U Z B L F ++ [(o, .inl (cJ, 1, .inr (.inl (vp_updL f 0 ((nI (ct (fun a => ho (B a) (nI t)) ac)).toInt64)))))]) H := hP
  refine lv_iconst (v := 0) hx hb dL_votesFor_15 (by decide) ?_
  exact W.iret (v := 0) hx hb hr (fun t9 ht9 hW9 => ⟨⟨0, (), rfl, rfl, by show va_P D vwCl _ t9.heap; rw [ht9]; exact hP⟩, hS.F ht9⟩) hS.2.2 dL_votesFor_16
set_option maxHeartbeats 4000000 in
set_option maxRecDepth 100000 in
theorem wx_L_votesFor (l : Launch) (hl0 : l.stackTraces = false) {D : va_G} {cI cZ cJ : ClassId} {q : Nat → Nat} {o : Nat} {f : Nat → Int64} {tc nc ac : Nat} {ch : Int32} {U : Nat → Int32} {Z : Nat → Bool} {B L F : Nat → Int32} {H : Heap} (hP : va_P D vwCl (wX cI cZ q tc nc ac ch U Z B L F ++ [(o, .inl (cJ, 1, .inr (.inl f)))]) H) (htc : tc ≤ 8) (hnc : nc ≤ 40) (hac : ac ≤ 8) {v : Int32} (hv : v < 0 ∨ nI tc ≤ v) : Met l yL_votesFor wsL_votesFor ({ frames := 8, cells := 1, slots := 6, locals := 134 }) (va_Pc [.ref (q 0), .int v, .ref o] (rdx D vwCl (tyA cI cZ ++ [(cJ, .long)]) H)) (va_Qi (fun r (_ : Unit) => r = 1) (fun _ _ => True) (fun _ => False)) 1 6 (fun _ => False) := by
  refine met_ofWH (cc := cL_votesFor) (maxL := 4) (ret := (some .int)) (hh := [(0, 9, 12, 25)]) (by decide) rfl ?_
  intro p e s m args below meth c s₁ B9 hml hv
  obtain ⟨rfl, hH, hK, hE⟩ := hv
  subst hH
  have hx := B9.exec
  have hb := B9.bytes
  have hr := B9.returns
  have hts := atoms_spec (ws := wsL_votesFor) B9.pre
  have hown : s.vm.findClass RL = some m.cls := findClass_of_methodNamed B9.named
  have hK2 : va_K D vwCl (tyA cI cZ) s := hK.sub [0, 1] rfl
  have htb := vx_table (x := yL_votesFor) B9 (hts (.codeWith yL_votesFor cL_votesFor 4 (some .int) [(0, 9, 12, 25)]) List.mem_cons_self)
  have hl := lv_entry ([.ref (q 0), .int v, .ref o]) (n := 4) (Nat.le_of_ble_eq_true rfl)
  rw [lg_entry_eq]
  generalize (lg_sl ([.ref (q 0), .int v, .ref o]) ++ List.replicate (4 - (lg_sl ([.ref (q 0), .int v, .ref o])).length) Slot.unset).toArray = ls at hl ⊢
  have hl : lv_has ls 4 [(0, .ref (q 0)), (1, .int v), (2, .ref o)] := hl
  refine lv_aload_n hx hb dL_votesFor_0 rfl (lv_at hl 2 rfl) ?_
  refine lv_iconst (v := 0) hx hb dL_votesFor_1 (by decide) ?_
  refine lv_aload_n hx hb dL_votesFor_2 rfl (lv_at hl 0 rfl) ?_
  refine lv_iload_n hx hb dL_votesFor_3 rfl (lv_at hl 1 rfl) ?_
  refine bcV (E0 := EIO) (As := [.int v]) (rest := [.int 0, .ref o]) ⟨hx, hb, hml, hown, hts⟩ (b_X_votesFor l hl0 (P_l hP) htc hnc hac (v := v) hv) (cwV 1 hts gL_votesFor_X0_votesFor rfl rfl rfl hdX0_votesFor ⟨Nat.le_of_ble_eq_true rfl, Nat.le_of_ble_eq_true rfl⟩) (va_recv hK hP (ci := 0) (q0 := 0) rfl rfl) hK2 hE rfl hl.1 (Nat.le_of_ble_eq_true rfl) rfl dL_votesFor_4 ⟨Nat.le_of_ble_eq_true rfl, Nat.le_of_ble_eq_true rfl⟩ (fun ce q9 H1 hz hk hce hvn hcl => ?_)
  refine vx_catch (own := RL) (name := EIO) hown [] ⟨0, 9, 12, 25⟩ [] htb (fun z hz => absurd hz List.not_mem_nil) (by decide) (by decide) (hts (.classLink RL 25 EIO) (List.mem_of_getElem? (i := 1) rfl)) (xE_cast xc_EIO hE) hce hvn hcl ?_
  refine lv_astore_n (lv' := [(3, .ref q9), (0, .ref (q 0)), (1, .int v), (2, .ref o)]) hx hb dL_votesFor_12 rfl hl (by decide) rfl (fun ls hl => ?_)
  refine lv_iconst (v := 1) hx hb dL_votesFor_13 (by decide) ?_
  exact W.iret (v := 1) hx hb hr (fun t9 ht9 hW9 => ⟨⟨1, (), rfl, rfl, trivial⟩, by rw [ht9]; exact hz, fun q h1 _ => by rw [ht9]; exact hk q h1⟩) (fun _ h => absurd h List.not_mem_nil) dL_votesFor_14
set_option maxHeartbeats 4000000 in
set_option maxRecDepth 100000 in
theorem w_L_explainsAll (l : Launch) {D : va_G} {cI cZ cJ : ClassId} {q : Nat → Nat} {o : Nat} {f : Nat → Int64} {tc nc ac : Nat} {ch : Int32} {U : Nat → Int32} {Z : Nat → Bool} {B L F : Nat → Int32} {H : Heap} (hP : va_P D vwCl (wX cI cZ q tc nc ac ch U Z B L F ++ [(o, .inl (cJ, 1, .inr (.inl f)))]) H) (htc : tc ≤ 8) (hnc : nc ≤ 40) (hac : ac ≤ 8) (hD0 : va_D (fun _ => True) (wX cI cZ q tc nc ac ch U Z B L F ++ [(o, .inl (cJ, 1, .inr (.inl f)))])) {k : Nat} (hk : k < pw tc) : Met l yL_explainsAll wsL_explainsAll ({ frames := 3, cells := 0, slots := 0, locals := 62 }) (va_Pc [.ref (q 0), .int (nI k), .ref o] (rd D vwCl (tyA cI cZ ++ [(cJ, .long)]) H)) (va_Qi (fun r (_ : Unit) => r = 0) (fun _ t8 => va_P D vwCl (wX cI cZ q tc nc ac ch U Z B L F ++ [(o, .inl (cJ, 1, .inr (.inl (vp_updL f 0 ((bI (zz U Z nc k)).toInt64)))))]) t8.heap) (va_A (wX cI cZ q tc nc ac ch U Z B L F ++ [(o, .inl (cJ, 1, .inr (.inl f)))]) H.size)) 0 0 (va_A (wX cI cZ q tc nc ac ch U Z B L F ++ [(o, .inl (cJ, 1, .inr (.inl f)))]) H.size) := by
  refine met_ofWH (cc := cL_explainsAll) (maxL := 4) (ret := (some .int)) (hh := [(0, 16, 19, 19)]) (by decide) rfl ?_
  intro p e s m args below meth c s₁ B9 hml hv
  obtain ⟨rfl, hH, hK⟩ := hv
  subst hH
  have hx := B9.exec
  have hb := B9.bytes
  have hr := B9.returns
  have hts := atoms_spec (ws := wsL_explainsAll) B9.pre
  have hown : s.vm.findClass RL = some m.cls := findClass_of_methodNamed B9.named
  have hK2 : va_K D vwCl (tyA cI cZ) s := hK.sub [0, 1] rfl
  have hD0 := hD0.self (sz := s.heap.size)
  generalize hAe : va_A (wX cI cZ q tc nc ac ch U Z B L F ++ [(o, .inl (cJ, 1, .inr (.inl f)))]) s.heap.size = A at hD0 ⊢
  have hA : ∀ q : Nat, s.heap.size ≤ q → A q := fun q h => by rw [← hAe]; exact Or.inr h
  have hS : va_S A s.heap s.heap [] := va_S.rf
  have hD := hD0
  have hl := lv_entry ([.ref (q 0), .int (nI k), .ref o]) (n := 4) (Nat.le_of_ble_eq_true rfl)
  rw [lg_entry_eq]
  generalize (lg_sl ([.ref (q 0), .int (nI k), .ref o]) ++ List.replicate (4 - (lg_sl ([.ref (q 0), .int (nI k), .ref o])).length) Slot.unset).toArray = ls at hl ⊢
  have hl : lv_has ls 4 [(0, .ref (q 0)), (1, .int (nI k)), (2, .ref o)] := hl
  refine lv_aload_n hx hb dL_explainsAll_0 rfl (lv_at hl 2 rfl) ?_
  refine lv_iconst (v := 0) hx hb dL_explainsAll_1 (by decide) ?_
  refine lv_aload_n hx hb dL_explainsAll_2 rfl (lv_at hl 0 rfl) ?_
  refine lv_iload_n hx hb dL_explainsAll_3 rfl (lv_at hl 1 rfl) ?_
  refine pcV_i (As := [.int (nI k)]) (rest := [.int 0, .ref o]) ⟨hx, hb, hml, hown, hts⟩ (g_X_explainsAll l (P_l hP) htc hnc hac (k := k) hk) (cwV 1 hts gL_explainsAll_X0_explainsAll rfl rfl rfl hdX0_explainsAll ⟨Nat.le_of_ble_eq_true rfl, Nat.le_of_ble_eq_true rfl⟩) (va_recv hK hP (ci := 0) (q0 := 0) rfl rfl) hK2 rfl hl.1 (Nat.le_of_ble_eq_true rfl) rfl dL_explainsAll_4 ⟨Nat.le_of_ble_eq_true rfl, Nat.le_of_ble_eq_true rfl⟩ ?_
  refine lv_bl (t0 := 14) hx hb dL_explainsAll_7 dL_explainsAll_10 dL_explainsAll_11 dL_explainsAll_14 (by decide) (by decide) ?_
  refine ll_st hx hb hK hP hD hS 7 2 rfl rfl dL_explainsAll_15 (fun H locs hP hS => ?_)
  refine lv_goto (tgt := 22) hx hb dL_explainsAll_16 (by decide) ?_
  have hP : va_P D vwCl (wX cI cZ q tc nc ac ch U Z B L F ++ [(o, .inl (cJ, 1, .inr (.inl (vp_updL f 0 ((bI (zz U Z nc k)).toInt64)))))]) H := hP
  refine lv_iconst (v := 0) hx hb dL_explainsAll_22 (by decide) ?_
  exact W.iret (v := 0) hx hb hr (fun t9 ht9 hW9 => ⟨⟨0, (), rfl, rfl, by show va_P D vwCl _ t9.heap; rw [ht9]; exact hP⟩, hS.F ht9⟩) hS.2.2 dL_explainsAll_23
set_option maxHeartbeats 4000000 in
set_option maxRecDepth 100000 in
theorem wx_L_explainsAll (l : Launch) (hl0 : l.stackTraces = false) {D : va_G} {cI cZ cJ : ClassId} {q : Nat → Nat} {o : Nat} {f : Nat → Int64} {tc nc ac : Nat} {ch : Int32} {U : Nat → Int32} {Z : Nat → Bool} {B L F : Nat → Int32} {H : Heap} (hP : va_P D vwCl (wX cI cZ q tc nc ac ch U Z B L F ++ [(o, .inl (cJ, 1, .inr (.inl f)))]) H) (htc : tc ≤ 8) (hnc : nc ≤ 40) (hac : ac ≤ 8) {v : Int32} (hv : v < 0 ∨ nI (pw tc - 1) < v) : Met l yL_explainsAll wsL_explainsAll ({ frames := 8, cells := 1, slots := 6, locals := 132 }) (va_Pc [.ref (q 0), .int v, .ref o] (rdx D vwCl (tyA cI cZ ++ [(cJ, .long)]) H)) (va_Qi (fun r (_ : Unit) => r = 1) (fun _ _ => True) (fun _ => False)) 1 6 (fun _ => False) := by
  refine met_ofWH (cc := cL_explainsAll) (maxL := 4) (ret := (some .int)) (hh := [(0, 16, 19, 19)]) (by decide) rfl ?_
  intro p e s m args below meth c s₁ B9 hml hv
  obtain ⟨rfl, hH, hK, hE⟩ := hv
  subst hH
  have hx := B9.exec
  have hb := B9.bytes
  have hr := B9.returns
  have hts := atoms_spec (ws := wsL_explainsAll) B9.pre
  have hown : s.vm.findClass RL = some m.cls := findClass_of_methodNamed B9.named
  have hK2 : va_K D vwCl (tyA cI cZ) s := hK.sub [0, 1] rfl
  have htb := vx_table (x := yL_explainsAll) B9 (hts (.codeWith yL_explainsAll cL_explainsAll 4 (some .int) [(0, 16, 19, 19)]) List.mem_cons_self)
  have hl := lv_entry ([.ref (q 0), .int v, .ref o]) (n := 4) (Nat.le_of_ble_eq_true rfl)
  rw [lg_entry_eq]
  generalize (lg_sl ([.ref (q 0), .int v, .ref o]) ++ List.replicate (4 - (lg_sl ([.ref (q 0), .int v, .ref o])).length) Slot.unset).toArray = ls at hl ⊢
  have hl : lv_has ls 4 [(0, .ref (q 0)), (1, .int v), (2, .ref o)] := hl
  refine lv_aload_n hx hb dL_explainsAll_0 rfl (lv_at hl 2 rfl) ?_
  refine lv_iconst (v := 0) hx hb dL_explainsAll_1 (by decide) ?_
  refine lv_aload_n hx hb dL_explainsAll_2 rfl (lv_at hl 0 rfl) ?_
  refine lv_iload_n hx hb dL_explainsAll_3 rfl (lv_at hl 1 rfl) ?_
  refine bcV (E0 := EIA) (As := [.int v]) (rest := [.int 0, .ref o]) ⟨hx, hb, hml, hown, hts⟩ (b_X_explainsAll l hl0 (P_l hP) htc hnc hac (v := v) hv) (cwV 1 hts gL_explainsAll_X0_explainsAll rfl rfl rfl hdX0_explainsAll ⟨Nat.le_of_ble_eq_true rfl, Nat.le_of_ble_eq_true rfl⟩) (va_recv hK hP (ci := 0) (q0 := 0) rfl rfl) hK2 hE rfl hl.1 (Nat.le_of_ble_eq_true rfl) rfl dL_explainsAll_4 ⟨Nat.le_of_ble_eq_true rfl, Nat.le_of_ble_eq_true rfl⟩ (fun ce q9 H1 hz hk hce hvn hcl => ?_)
  refine vx_catch (own := RL) (name := EIA) hown [] ⟨0, 16, 19, 19⟩ [] htb (fun z hz => absurd hz List.not_mem_nil) (by decide) (by decide) (hts (.classLink RL 19 EIA) (List.mem_of_getElem? (i := 1) rfl)) (xE_cast xc_EIA hE) hce hvn hcl ?_
  refine lv_astore_n (lv' := [(3, .ref q9), (0, .ref (q 0)), (1, .int v), (2, .ref o)]) hx hb dL_explainsAll_19 rfl hl (by decide) rfl (fun ls hl => ?_)
  refine lv_iconst (v := 1) hx hb dL_explainsAll_20 (by decide) ?_
  exact W.iret (v := 1) hx hb hr (fun t9 ht9 hW9 => ⟨⟨1, (), rfl, rfl, trivial⟩, by rw [ht9]; exact hz, fun q h1 _ => by rw [ht9]; exact hk q h1⟩) (fun _ h => absurd h List.not_mem_nil) dL_explainsAll_21
set_option maxHeartbeats 4000000 in
set_option maxRecDepth 100000 in
theorem w_L_leftIfSmudged (l : Launch) {D : va_G} {cI cZ cJ : ClassId} {q : Nat → Nat} {o : Nat} {f : Nat → Int64} {tc nc ac : Nat} {ch : Int32} {U : Nat → Int32} {Z : Nat → Bool} {B L F : Nat → Int32} {H : Heap} (hP : va_P D vwCl (wX cI cZ q tc nc ac ch U Z B L F ++ [(o, .inl (cJ, 1, .inr (.inl f)))]) H) (htc : tc ≤ 8) (hnc : nc ≤ 40) (hac : ac ≤ 8) (hD0 : va_D (fun _ => True) (wX cI cZ q tc nc ac ch U Z B L F ++ [(o, .inl (cJ, 1, .inr (.inl f)))])) {k : Nat} (hk0 : 1 ≤ k) (hk : k < pw tc) : Met l yL_leftIfSmudged wsL_leftIfSmudged ({ frames := 3, cells := 0, slots := 0, locals := 65 }) (va_Pc [.ref (q 0), .int (nI k), .ref o] (rd D vwCl (tyA cI cZ ++ [(cJ, .long)]) H)) (va_Qi (fun r (_ : Unit) => r = 0) (fun _ t8 => va_P D vwCl (wX cI cZ q tc nc ac ch U Z B L F ++ [(o, .inl (cJ, 1, .inr (.inl (vp_updL f 0 ((nI (mt U Z nc (pw tc) (nI k))).toInt64)))))]) t8.heap) (va_A (wX cI cZ q tc nc ac ch U Z B L F ++ [(o, .inl (cJ, 1, .inr (.inl f)))]) H.size)) 0 0 (va_A (wX cI cZ q tc nc ac ch U Z B L F ++ [(o, .inl (cJ, 1, .inr (.inl f)))]) H.size) := by
  refine met_ofWH (cc := cL_leftIfSmudged) (maxL := 4) (ret := (some .int)) (hh := [(0, 9, 12, 19)]) (by decide) rfl ?_
  intro p e s m args below meth c s₁ B9 hml hv
  obtain ⟨rfl, hH, hK⟩ := hv
  subst hH
  have hx := B9.exec
  have hb := B9.bytes
  have hr := B9.returns
  have hts := atoms_spec (ws := wsL_leftIfSmudged) B9.pre
  have hown : s.vm.findClass RL = some m.cls := findClass_of_methodNamed B9.named
  have hK2 : va_K D vwCl (tyA cI cZ) s := hK.sub [0, 1] rfl
  have hD0 := hD0.self (sz := s.heap.size)
  generalize hAe : va_A (wX cI cZ q tc nc ac ch U Z B L F ++ [(o, .inl (cJ, 1, .inr (.inl f)))]) s.heap.size = A at hD0 ⊢
  have hA : ∀ q : Nat, s.heap.size ≤ q → A q := fun q h => by rw [← hAe]; exact Or.inr h
  have hS : va_S A s.heap s.heap [] := va_S.rf
  have hD := hD0
  have hl := lv_entry ([.ref (q 0), .int (nI k), .ref o]) (n := 4) (Nat.le_of_ble_eq_true rfl)
  rw [lg_entry_eq]
  generalize (lg_sl ([.ref (q 0), .int (nI k), .ref o]) ++ List.replicate (4 - (lg_sl ([.ref (q 0), .int (nI k), .ref o])).length) Slot.unset).toArray = ls at hl ⊢
  have hl : lv_has ls 4 [(0, .ref (q 0)), (1, .int (nI k)), (2, .ref o)] := hl
  refine lv_aload_n hx hb dL_leftIfSmudged_0 rfl (lv_at hl 2 rfl) ?_
  refine lv_iconst (v := 0) hx hb dL_leftIfSmudged_1 (by decide) ?_
  refine lv_aload_n hx hb dL_leftIfSmudged_2 rfl (lv_at hl 0 rfl) ?_
  refine lv_iload_n hx hb dL_leftIfSmudged_3 rfl (lv_at hl 1 rfl) ?_
  refine pcV_i (As := [.int (nI k)]) (rest := [.int 0, .ref o]) ⟨hx, hb, hml, hown, hts⟩ (g_X_leftIfSmudged l (P_l hP) htc hnc hac (k := k) hk0 hk) (cwV 1 hts gL_leftIfSmudged_X0_leftIfSmudged rfl rfl rfl hdX0_leftIfSmudged ⟨Nat.le_of_ble_eq_true rfl, Nat.le_of_ble_eq_true rfl⟩) (va_recv hK hP (ci := 0) (q0 := 0) rfl rfl) hK2 rfl hl.1 (Nat.le_of_ble_eq_true rfl) rfl dL_leftIfSmudged_4 ⟨Nat.le_of_ble_eq_true rfl, Nat.le_of_ble_eq_true rfl⟩ ?_
  refine lv_i2l (v := (nI (mt U Z nc (pw tc) (nI k))).toInt64) hx hb dL_leftIfSmudged_7 rfl ?_
  refine ll_st hx hb hK hP hD hS 7 2 rfl rfl dL_leftIfSmudged_8 (fun H locs hP hS => ?_)
  refine lv_goto (tgt := 15) hx hb dL_leftIfSmudged_9 (by decide) ?_
  have hP : va_P D vwCl (wX cI cZ q tc nc ac ch U Z B L F ++ [(o, .inl (cJ, 1, .inr (.inl (vp_updL f 0 ((nI (mt U Z nc (pw tc) (nI k))).toInt64)))))]) H := hP
  refine lv_iconst (v := 0) hx hb dL_leftIfSmudged_15 (by decide) ?_
  exact W.iret (v := 0) hx hb hr (fun t9 ht9 hW9 => ⟨⟨0, (), rfl, rfl, by show va_P D vwCl _ t9.heap; rw [ht9]; exact hP⟩, hS.F ht9⟩) hS.2.2 dL_leftIfSmudged_16
set_option maxHeartbeats 4000000 in
set_option maxRecDepth 100000 in
theorem wx_L_leftIfSmudged (l : Launch) (hl0 : l.stackTraces = false) {D : va_G} {cI cZ cJ : ClassId} {q : Nat → Nat} {o : Nat} {f : Nat → Int64} {tc nc ac : Nat} {ch : Int32} {U : Nat → Int32} {Z : Nat → Bool} {B L F : Nat → Int32} {H : Heap} (hP : va_P D vwCl (wX cI cZ q tc nc ac ch U Z B L F ++ [(o, .inl (cJ, 1, .inr (.inl f)))]) H) (htc : tc ≤ 8) (hnc : nc ≤ 40) (hac : ac ≤ 8) {v : Int32} (hv : v < 1 ∨ nI (pw tc - 1) < v) : Met l yL_leftIfSmudged wsL_leftIfSmudged ({ frames := 8, cells := 1, slots := 6, locals := 132 }) (va_Pc [.ref (q 0), .int v, .ref o] (rdx D vwCl (tyA cI cZ ++ [(cJ, .long)]) H)) (va_Qi (fun r (_ : Unit) => r = 1) (fun _ _ => True) (fun _ => False)) 1 6 (fun _ => False) := by
  refine met_ofWH (cc := cL_leftIfSmudged) (maxL := 4) (ret := (some .int)) (hh := [(0, 9, 12, 19)]) (by decide) rfl ?_
  intro p e s m args below meth c s₁ B9 hml hv
  obtain ⟨rfl, hH, hK, hE⟩ := hv
  subst hH
  have hx := B9.exec
  have hb := B9.bytes
  have hr := B9.returns
  have hts := atoms_spec (ws := wsL_leftIfSmudged) B9.pre
  have hown : s.vm.findClass RL = some m.cls := findClass_of_methodNamed B9.named
  have hK2 : va_K D vwCl (tyA cI cZ) s := hK.sub [0, 1] rfl
  have htb := vx_table (x := yL_leftIfSmudged) B9 (hts (.codeWith yL_leftIfSmudged cL_leftIfSmudged 4 (some .int) [(0, 9, 12, 19)]) List.mem_cons_self)
  have hl := lv_entry ([.ref (q 0), .int v, .ref o]) (n := 4) (Nat.le_of_ble_eq_true rfl)
  rw [lg_entry_eq]
  generalize (lg_sl ([.ref (q 0), .int v, .ref o]) ++ List.replicate (4 - (lg_sl ([.ref (q 0), .int v, .ref o])).length) Slot.unset).toArray = ls at hl ⊢
  have hl : lv_has ls 4 [(0, .ref (q 0)), (1, .int v), (2, .ref o)] := hl
  refine lv_aload_n hx hb dL_leftIfSmudged_0 rfl (lv_at hl 2 rfl) ?_
  refine lv_iconst (v := 0) hx hb dL_leftIfSmudged_1 (by decide) ?_
  refine lv_aload_n hx hb dL_leftIfSmudged_2 rfl (lv_at hl 0 rfl) ?_
  refine lv_iload_n hx hb dL_leftIfSmudged_3 rfl (lv_at hl 1 rfl) ?_
  refine bcV (E0 := EIA) (As := [.int v]) (rest := [.int 0, .ref o]) ⟨hx, hb, hml, hown, hts⟩ (b_X_leftIfSmudged l hl0 (P_l hP) htc hnc hac (v := v) hv) (cwV 1 hts gL_leftIfSmudged_X0_leftIfSmudged rfl rfl rfl hdX0_leftIfSmudged ⟨Nat.le_of_ble_eq_true rfl, Nat.le_of_ble_eq_true rfl⟩) (va_recv hK hP (ci := 0) (q0 := 0) rfl rfl) hK2 hE rfl hl.1 (Nat.le_of_ble_eq_true rfl) rfl dL_leftIfSmudged_4 ⟨Nat.le_of_ble_eq_true rfl, Nat.le_of_ble_eq_true rfl⟩ (fun ce q9 H1 hz hk hce hvn hcl => ?_)
  refine vx_catch (own := RL) (name := EIA) hown [] ⟨0, 9, 12, 19⟩ [] htb (fun z hz => absurd hz List.not_mem_nil) (by decide) (by decide) (hts (.classLink RL 19 EIA) (List.mem_of_getElem? (i := 1) rfl)) (xE_cast xc_EIA hE) hce hvn hcl ?_
  refine lv_astore_n (lv' := [(3, .ref q9), (0, .ref (q 0)), (1, .int v), (2, .ref o)]) hx hb dL_leftIfSmudged_12 rfl hl (by decide) rfl (fun ls hl => ?_)
  refine lv_iconst (v := 1) hx hb dL_leftIfSmudged_13 (by decide) ?_
  exact W.iret (v := 1) hx hb hr (fun t9 ht9 hW9 => ⟨⟨1, (), rfl, rfl, trivial⟩, by rw [ht9]; exact hz, fun q h1 _ => by rw [ht9]; exact hk q h1⟩) (fun _ h => absurd h List.not_mem_nil) dL_leftIfSmudged_14
set_option maxHeartbeats 4000000 in
set_option maxRecDepth 100000 in
theorem w_L_wouldChange (l : Launch) {D : va_G} {cI cZ cJ : ClassId} {q : Nat → Nat} {o : Nat} {f : Nat → Int64} {tc nc ac : Nat} {ch : Int32} {U : Nat → Int32} {Z : Nat → Bool} {B L F : Nat → Int32} {H : Heap} (hP : va_P D vwCl (wX cI cZ q tc nc ac ch U Z B L F ++ [(o, .inl (cJ, 1, .inr (.inl f)))]) H) (htc : tc ≤ 8) (hnc : nc ≤ 40) (hac : ac ≤ 8) (hD0 : va_D (fun _ => True) (wX cI cZ q tc nc ac ch U Z B L F ++ [(o, .inl (cJ, 1, .inr (.inl f)))])) {k : Nat} {z : Bool} (hk0 : 1 ≤ k) (hk : k < pw tc) (h40 : nc < 40) : Met l yL_wouldChange wsL_wouldChange ({ frames := 3, cells := 0, slots := 0, locals := 69 }) (va_Pc [.ref (q 0), .int (nI k), .int (bI z), .ref o] (rd D vwCl (tyA cI cZ ++ [(cJ, .long)]) H)) (va_Qi (fun r (_ : Unit) => r = 0) (fun _ t8 => va_P D vwCl (wX cI cZ q tc nc ac ch U Z B L F ++ [(o, .inl (cJ, 1, .inr (.inl (vp_updL f 0 ((if anyb (fun j => zz U Z nc j && sx (nI j) (nI k) z) (pw tc) = true then nI (ct (fun a => !(sx (B a) (nI k) z) && decide (L a = 0)) ac) else 0).toInt64)))))]) t8.heap) (va_A (wX cI cZ q tc nc ac ch U Z B L F ++ [(o, .inl (cJ, 1, .inr (.inl f)))]) H.size)) 0 0 (va_A (wX cI cZ q tc nc ac ch U Z B L F ++ [(o, .inl (cJ, 1, .inr (.inl f)))]) H.size) := by
  refine met_ofWH (cc := cL_wouldChange) (maxL := 5) (ret := (some .int)) (hh := [(0, 10, 13, 19), (0, 10, 17, 13)]) (by decide) rfl ?_
  intro p e s m args below meth c s₁ B9 hml hv
  obtain ⟨rfl, hH, hK⟩ := hv
  subst hH
  have hx := B9.exec
  have hb := B9.bytes
  have hr := B9.returns
  have hts := atoms_spec (ws := wsL_wouldChange) B9.pre
  have hown : s.vm.findClass RL = some m.cls := findClass_of_methodNamed B9.named
  have hK2 : va_K D vwCl (tyA cI cZ) s := hK.sub [0, 1] rfl
  have hD0 := hD0.self (sz := s.heap.size)
  generalize hAe : va_A (wX cI cZ q tc nc ac ch U Z B L F ++ [(o, .inl (cJ, 1, .inr (.inl f)))]) s.heap.size = A at hD0 ⊢
  have hA : ∀ q : Nat, s.heap.size ≤ q → A q := fun q h => by rw [← hAe]; exact Or.inr h
  have hS : va_S A s.heap s.heap [] := va_S.rf
  have hD := hD0
  have hl := lv_entry ([.ref (q 0), .int (nI k), .int (bI z), .ref o]) (n := 5) (Nat.le_of_ble_eq_true rfl)
  rw [lg_entry_eq]
  generalize (lg_sl ([.ref (q 0), .int (nI k), .int (bI z), .ref o]) ++ List.replicate (5 - (lg_sl ([.ref (q 0), .int (nI k), .int (bI z), .ref o])).length) Slot.unset).toArray = ls at hl ⊢
  have hl : lv_has ls 5 [(0, .ref (q 0)), (1, .int (nI k)), (2, .int (bI z)), (3, .ref o)] := hl
  refine lv_aload_n hx hb dL_wouldChange_0 rfl (lv_at hl 3 rfl) ?_
  refine lv_iconst (v := 0) hx hb dL_wouldChange_1 (by decide) ?_
  refine lv_aload_n hx hb dL_wouldChange_2 rfl (lv_at hl 0 rfl) ?_
  refine lv_iload_n hx hb dL_wouldChange_3 rfl (lv_at hl 1 rfl) ?_
  refine lv_iload_n hx hb dL_wouldChange_4 rfl (lv_at hl 2 rfl) ?_
  refine pcV_i (As := [.int (nI k), .int (bI z)]) (rest := [.int 0, .ref o]) ⟨hx, hb, hml, hown, hts⟩ (g_X_wouldChange l (P_l hP) htc hnc hac (k := k) (z := z) hk0 hk h40) (cwV 2 hts gL_wouldChange_X0_wouldChange rfl rfl rfl hdX0_wouldChange ⟨Nat.le_of_ble_eq_true rfl, Nat.le_of_ble_eq_true rfl⟩) (va_recv hK hP (ci := 0) (q0 := 0) rfl rfl) hK2 rfl hl.1 (Nat.le_of_ble_eq_true rfl) rfl dL_wouldChange_5 ⟨Nat.le_of_ble_eq_true rfl, Nat.le_of_ble_eq_true rfl⟩ ?_
  refine lv_i2l (v := (if anyb (fun j => zz U Z nc j && sx (nI j) (nI k) z) (pw tc) = true then nI (ct (fun a => !(sx (B a) (nI k) z) && decide (L a = 0)) ac) else 0).toInt64) hx hb dL_wouldChange_8 rfl ?_
  refine ll_st hx hb hK hP hD hS 7 2 rfl rfl dL_wouldChange_9 (fun H locs hP hS => ?_)
  refine lv_goto (tgt := 21) hx hb dL_wouldChange_10 (by decide) ?_
  have hP : va_P D vwCl (wX cI cZ q tc nc ac ch U Z B L F ++ [(o, .inl (cJ, 1, .inr (.inl (vp_updL f 0 ((if anyb (fun j => zz U Z nc j && sx (nI j) (nI k) z) (pw tc) = true then nI (ct (fun a => !(sx (B a) (nI k) z) && decide (L a = 0)) ac) else 0).toInt64)))))]) H := hP
  refine lv_iconst (v := 0) hx hb dL_wouldChange_21 (by decide) ?_
  exact W.iret (v := 0) hx hb hr (fun t9 ht9 hW9 => ⟨⟨0, (), rfl, rfl, by show va_P D vwCl _ t9.heap; rw [ht9]; exact hP⟩, hS.F ht9⟩) hS.2.2 dL_wouldChange_22
set_option maxHeartbeats 4000000 in
set_option maxRecDepth 100000 in
theorem wx_L_wouldChange (l : Launch) (hl0 : l.stackTraces = false) {D : va_G} {cI cZ cJ : ClassId} {q : Nat → Nat} {o : Nat} {f : Nat → Int64} {tc nc ac : Nat} {ch : Int32} {U : Nat → Int32} {Z : Nat → Bool} {B L F : Nat → Int32} {H : Heap} (hP : va_P D vwCl (wX cI cZ q tc nc ac ch U Z B L F ++ [(o, .inl (cJ, 1, .inr (.inl f)))]) H) (htc : tc ≤ 8) (hnc : nc ≤ 40) (hac : ac ≤ 8) {v : Int32} {z : Bool} (hv : v < 1 ∨ nI (pw tc - 1) < v) : Met l yL_wouldChange wsL_wouldChange ({ frames := 8, cells := 1, slots := 6, locals := 135 }) (va_Pc [.ref (q 0), .int v, .int (bI z), .ref o] (rdx D vwCl (tyA cI cZ ++ [(cJ, .long)]) H)) (va_Qi (fun r (_ : Unit) => r = 1) (fun _ _ => True) (fun _ => False)) 1 6 (fun _ => False) := by
  refine met_ofWH (cc := cL_wouldChange) (maxL := 5) (ret := (some .int)) (hh := [(0, 10, 13, 19), (0, 10, 17, 13)]) (by decide) rfl ?_
  intro p e s m args below meth c s₁ B9 hml hv
  obtain ⟨rfl, hH, hK, hE⟩ := hv
  subst hH
  have hx := B9.exec
  have hb := B9.bytes
  have hr := B9.returns
  have hts := atoms_spec (ws := wsL_wouldChange) B9.pre
  have hown : s.vm.findClass RL = some m.cls := findClass_of_methodNamed B9.named
  have hK2 : va_K D vwCl (tyA cI cZ) s := hK.sub [0, 1] rfl
  have htb := vx_table (x := yL_wouldChange) B9 (hts (.codeWith yL_wouldChange cL_wouldChange 5 (some .int) [(0, 10, 13, 19), (0, 10, 17, 13)]) List.mem_cons_self)
  have hl := lv_entry ([.ref (q 0), .int v, .int (bI z), .ref o]) (n := 5) (Nat.le_of_ble_eq_true rfl)
  rw [lg_entry_eq]
  generalize (lg_sl ([.ref (q 0), .int v, .int (bI z), .ref o]) ++ List.replicate (5 - (lg_sl ([.ref (q 0), .int v, .int (bI z), .ref o])).length) Slot.unset).toArray = ls at hl ⊢
  have hl : lv_has ls 5 [(0, .ref (q 0)), (1, .int v), (2, .int (bI z)), (3, .ref o)] := hl
  refine lv_aload_n hx hb dL_wouldChange_0 rfl (lv_at hl 3 rfl) ?_
  refine lv_iconst (v := 0) hx hb dL_wouldChange_1 (by decide) ?_
  refine lv_aload_n hx hb dL_wouldChange_2 rfl (lv_at hl 0 rfl) ?_
  refine lv_iload_n hx hb dL_wouldChange_3 rfl (lv_at hl 1 rfl) ?_
  refine lv_iload_n hx hb dL_wouldChange_4 rfl (lv_at hl 2 rfl) ?_
  refine bcV (E0 := EIA) (As := [.int v, .int (bI z)]) (rest := [.int 0, .ref o]) ⟨hx, hb, hml, hown, hts⟩ (b_X_wouldChange l hl0 (P_l hP) htc hnc hac (v := v) (z := z) hv) (cwV 2 hts gL_wouldChange_X0_wouldChange rfl rfl rfl hdX0_wouldChange ⟨Nat.le_of_ble_eq_true rfl, Nat.le_of_ble_eq_true rfl⟩) (va_recv hK hP (ci := 0) (q0 := 0) rfl rfl) hK2 hE rfl hl.1 (Nat.le_of_ble_eq_true rfl) rfl dL_wouldChange_5 ⟨Nat.le_of_ble_eq_true rfl, Nat.le_of_ble_eq_true rfl⟩ (fun ce q9 H1 hz hk hce hvn hcl => ?_)
  refine vx_catch (own := RL) (name := EIA) hown [] ⟨0, 10, 13, 19⟩ [⟨0, 10, 17, 13⟩] htb (fun z hz => absurd hz List.not_mem_nil) (by decide) (by decide) (hts (.classLink RL 19 EIA) (List.mem_of_getElem? (i := 1) rfl)) (xE_cast xc_EIA hE) hce hvn hcl ?_
  refine lv_astore (lv' := [(4, .ref q9), (0, .ref (q 0)), (1, .int v), (2, .int (bI z)), (3, .ref o)]) hx hb dL_wouldChange_13 hl (by decide) rfl (fun ls hl => ?_)
  refine lv_iconst (v := 1) hx hb dL_wouldChange_15 (by decide) ?_
  exact W.iret (v := 1) hx hb hr (fun t9 ht9 hW9 => ⟨⟨1, (), rfl, rfl, trivial⟩, by rw [ht9]; exact hz, fun q h1 _ => by rw [ht9]; exact hk q h1⟩) (fun _ h => absurd h List.not_mem_nil) dL_wouldChange_16
set_option maxHeartbeats 4000000 in
set_option maxRecDepth 100000 in
theorem wx2_L_wouldChange (l : Launch) (hl0 : l.stackTraces = false) {D : va_G} {cI cZ cJ : ClassId} {q : Nat → Nat} {o : Nat} {f : Nat → Int64} {tc nc ac : Nat} {ch : Int32} {U : Nat → Int32} {Z : Nat → Bool} {B L F : Nat → Int32} {H : Heap} (hP : va_P D vwCl (wX cI cZ q tc nc ac ch U Z B L F ++ [(o, .inl (cJ, 1, .inr (.inl f)))]) H) (htc : tc ≤ 8) (hnc : nc ≤ 40) (hac : ac ≤ 8) {k : Nat} {z : Bool} (hk0 : 1 ≤ k) (hk : k < pw tc) (h40 : nc = 40) : Met l yL_wouldChange wsL_wouldChange ({ frames := 8, cells := 1, slots := 6, locals := 135 }) (va_Pc [.ref (q 0), .int (nI k), .int (bI z), .ref o] (rdx D vwCl (tyA cI cZ ++ [(cJ, .long)]) H)) (va_Qi (fun r (_ : Unit) => r = 2) (fun _ _ => True) (fun _ => False)) 1 6 (fun _ => False) := by
  refine met_ofWH (cc := cL_wouldChange) (maxL := 5) (ret := (some .int)) (hh := [(0, 10, 13, 19), (0, 10, 17, 13)]) (by decide) rfl ?_
  intro p e s m args below meth c s₁ B9 hml hv
  obtain ⟨rfl, hH, hK, hE⟩ := hv
  subst hH
  have hx := B9.exec
  have hb := B9.bytes
  have hr := B9.returns
  have hts := atoms_spec (ws := wsL_wouldChange) B9.pre
  have hown : s.vm.findClass RL = some m.cls := findClass_of_methodNamed B9.named
  have hK2 : va_K D vwCl (tyA cI cZ) s := hK.sub [0, 1] rfl
  have htb := vx_table (x := yL_wouldChange) B9 (hts (.codeWith yL_wouldChange cL_wouldChange 5 (some .int) [(0, 10, 13, 19), (0, 10, 17, 13)]) List.mem_cons_self)
  have hl := lv_entry ([.ref (q 0), .int (nI k), .int (bI z), .ref o]) (n := 5) (Nat.le_of_ble_eq_true rfl)
  rw [lg_entry_eq]
  generalize (lg_sl ([.ref (q 0), .int (nI k), .int (bI z), .ref o]) ++ List.replicate (5 - (lg_sl ([.ref (q 0), .int (nI k), .int (bI z), .ref o])).length) Slot.unset).toArray = ls at hl ⊢
  have hl : lv_has ls 5 [(0, .ref (q 0)), (1, .int (nI k)), (2, .int (bI z)), (3, .ref o)] := hl
  refine lv_aload_n hx hb dL_wouldChange_0 rfl (lv_at hl 3 rfl) ?_
  refine lv_iconst (v := 0) hx hb dL_wouldChange_1 (by decide) ?_
  refine lv_aload_n hx hb dL_wouldChange_2 rfl (lv_at hl 0 rfl) ?_
  refine lv_iload_n hx hb dL_wouldChange_3 rfl (lv_at hl 1 rfl) ?_
  refine lv_iload_n hx hb dL_wouldChange_4 rfl (lv_at hl 2 rfl) ?_
  refine bcV (E0 := EIS) (As := [.int (nI k), .int (bI z)]) (rest := [.int 0, .ref o]) ⟨hx, hb, hml, hown, hts⟩ (b2_X_wouldChange l hl0 (P_l hP) htc hnc hac (k := k) (z := z) hk0 hk h40) (cwV 2 hts gL_wouldChange_X0_wouldChange rfl rfl rfl hdX0_wouldChange ⟨Nat.le_of_ble_eq_true rfl, Nat.le_of_ble_eq_true rfl⟩) (va_recv hK hP (ci := 0) (q0 := 0) rfl rfl) hK2 hE rfl hl.1 (Nat.le_of_ble_eq_true rfl) rfl dL_wouldChange_5 ⟨Nat.le_of_ble_eq_true rfl, Nat.le_of_ble_eq_true rfl⟩ (fun ce q9 H1 hz hk hce hvn hcl => ?_)
  refine vx_catch (own := RL) (name := EIS) hown [⟨0, 10, 13, 19⟩] ⟨0, 10, 17, 13⟩ [] htb (fun z hz => by rw [List.mem_singleton.mp hz]; exact Or.inr ⟨by decide, EIA, (hts (.classLink RL 19 EIA) (List.mem_of_getElem? (i := 1) rfl)), hE.2.2.2.2.1⟩) (by decide) (by decide) (hts (.classLink RL 13 EIS) (List.mem_of_getElem? (i := 2) rfl)) (xE_cast xc_EIS hE) hce hvn hcl ?_
  refine lv_astore (lv' := [(4, .ref q9), (0, .ref (q 0)), (1, .int (nI k)), (2, .int (bI z)), (3, .ref o)]) hx hb dL_wouldChange_17 hl (by decide) rfl (fun ls hl => ?_)
  refine lv_iconst (v := 2) hx hb dL_wouldChange_19 (by decide) ?_
  exact W.iret (v := 2) hx hb hr (fun t9 ht9 hW9 => ⟨⟨2, (), rfl, rfl, trivial⟩, by rw [ht9]; exact hz, fun q h1 _ => by rw [ht9]; exact hk q h1⟩) (fun _ h => absurd h List.not_mem_nil) dL_wouldChange_20
