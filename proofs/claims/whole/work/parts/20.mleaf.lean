/-! SmudgedStarModel: contracts of its methods -/
set_option maxHeartbeats 4000000 in
set_option maxRecDepth 100000 in
theorem g_M_isIn (l : Launch) (v a b : Int32) : Met l yX1_isIn wsX1_isIn ({ frames := 0, cells := 0, slots := 0, locals := 0 }) (va_Pc [.int v, .int a, .int b] (fun _ => True)) (vp_Si (fun r => r = bI (rg v a b))) 0 0 (fun _ => False) := by
  refine Met.ofW (cc := cX1_isIn) (maxL := 3) (ret := (some .boolean)) (by decide) rfl ?_
  intro p e s m args below meth c s₁ B9 hml hv
  obtain ⟨rfl, -⟩ := hv
  have hx := B9.exec
  have hb := B9.bytes
  have hr := B9.returns
  have hts := atoms_spec (ws := wsX1_isIn) B9.pre
  have hown : s.vm.findClass RX1 = some m.cls := findClass_of_methodNamed B9.named
  have hlocks := B9.notSynchronized
  have hl := lv_entry ([.int v, .int a, .int b]) (n := 3) (Nat.le_of_ble_eq_true rfl)
  rw [lg_entry_eq]
  generalize (lg_sl ([.int v, .int a, .int b]) ++ List.replicate (3 - (lg_sl ([.int v, .int a, .int b])).length) Slot.unset).toArray = ls at hl ⊢
  have hl : lv_has ls 3 [(0, .int v), (1, .int a), (2, .int b)] := hl
  refine lv_iload_n hx hb dX1_isIn_0 rfl (lv_at hl 0 rfl) ?_
  refine lv_iload_n hx hb dX1_isIn_1 rfl (lv_at hl 1 rfl) ?_
  refine lv_icmp_lt (tgt := 14) hx hb dX1_isIn_2 (by decide) (fun c2 => ?_) (fun c2 => ?_)
  · skip
    refine lv_iconst (v := 0) hx hb dX1_isIn_14 (by decide) ?_
    exact W.zret (v := 0) (ty := .boolean) hx hb hr (rfl) (fun t9 ht9 hW9 => ⟨0, rfl, (rg_3 c2), ht9⟩) (fun _ h => absurd h List.not_mem_nil) dX1_isIn_15
  · skip
    refine lv_iload_n hx hb dX1_isIn_5 rfl (lv_at hl 0 rfl) ?_
    refine lv_iload_n hx hb dX1_isIn_6 rfl (lv_at hl 2 rfl) ?_
    refine lv_icmp_gt (tgt := 14) hx hb dX1_isIn_7 (by decide) (fun c7 => ?_) (fun c7 => ?_)
    · skip
      refine lv_iconst (v := 0) hx hb dX1_isIn_14 (by decide) ?_
      exact W.zret (v := 0) (ty := .boolean) hx hb hr (rfl) (fun t9 ht9 hW9 => ⟨0, rfl, (rg_2 c7), ht9⟩) (fun _ h => absurd h List.not_mem_nil) dX1_isIn_15
    · skip
      refine lv_iconst (v := 1) hx hb dX1_isIn_10 (by decide) ?_
      refine lv_goto (tgt := 15) hx hb dX1_isIn_11 (by decide) ?_
      exact W.zret (v := 1) (ty := .boolean) hx hb hr (rfl) (fun t9 ht9 hW9 => ⟨1, rfl, (rg_1 c2 c7), ht9⟩) (fun _ h => absurd h List.not_mem_nil) dX1_isIn_15
set_option maxHeartbeats 4000000 in
set_option maxRecDepth 100000 in
theorem g_M_has (l : Launch) (v t : Int32) : Met l yX1_has wsX1_has ({ frames := 0, cells := 0, slots := 0, locals := 0 }) (va_Pc [.int v, .int t] (fun _ => True)) (vp_Si (fun r => r = bI (hs v t))) 0 0 (fun _ => False) := by
  refine Met.ofW (cc := cX1_has) (maxL := 2) (ret := (some .boolean)) (by decide) rfl ?_
  intro p e s m args below meth c s₁ B9 hml hv
  obtain ⟨rfl, -⟩ := hv
  have hx := B9.exec
  have hb := B9.bytes
  have hr := B9.returns
  have hts := atoms_spec (ws := wsX1_has) B9.pre
  have hown : s.vm.findClass RX1 = some m.cls := findClass_of_methodNamed B9.named
  have hlocks := B9.notSynchronized
  have hl := lv_entry ([.int v, .int t]) (n := 2) (Nat.le_of_ble_eq_true rfl)
  rw [lg_entry_eq]
  generalize (lg_sl ([.int v, .int t]) ++ List.replicate (2 - (lg_sl ([.int v, .int t])).length) Slot.unset).toArray = ls at hl ⊢
  have hl : lv_has ls 2 [(0, .int v), (1, .int t)] := hl
  refine lv_iload_n hx hb dX1_has_0 rfl (lv_at hl 0 rfl) ?_
  refine lv_iload_n hx hb dX1_has_1 rfl (lv_at hl 1 rfl) ?_
  refine lv_ishr hx hb dX1_has_2 ?_
  refine lv_iconst (v := 1) hx hb dX1_has_3 (by decide) ?_
  refine lv_iand hx hb dX1_has_4 ?_
  refine lv_iconst (v := 1) hx hb dX1_has_5 (by decide) ?_
  refine lv_icmp_ne (tgt := 13) hx hb dX1_has_6 (by decide) (fun c6 => ?_) (fun c6 => ?_)
  · skip
    refine lv_iconst (v := 0) hx hb dX1_has_13 (by decide) ?_
    exact W.zret (v := 0) (ty := .boolean) hx hb hr (rfl) (fun t9 ht9 hW9 => ⟨0, rfl, (hs_f c6), ht9⟩) (fun _ h => absurd h List.not_mem_nil) dX1_has_14
  · skip
    refine lv_iconst (v := 1) hx hb dX1_has_9 (by decide) ?_
    refine lv_goto (tgt := 14) hx hb dX1_has_10 (by decide) ?_
    exact W.zret (v := 1) (ty := .boolean) hx hb hr (rfl) (fun t9 ht9 hW9 => ⟨1, rfl, (hs_t c6), ht9⟩) (fun _ h => absurd h List.not_mem_nil) dX1_has_14
set_option maxHeartbeats 4000000 in
set_option maxRecDepth 100000 in
theorem g_M_explains (l : Launch) (v u : Int32) (z : Bool) : Met l yX1_explains wsX1_explains ({ frames := 0, cells := 0, slots := 0, locals := 0 }) (va_Pc [.int v, .int u, .int (bI z)] (fun _ => True)) (vp_Si (fun r => r = bI (sx v u z))) 0 0 (fun _ => False) := by
  refine Met.ofW (cc := cX1_explains) (maxL := 3) (ret := (some .boolean)) (by decide) rfl ?_
  intro p e s m args below meth c s₁ B9 hml hv
  obtain ⟨rfl, -⟩ := hv
  have hx := B9.exec
  have hb := B9.bytes
  have hr := B9.returns
  have hts := atoms_spec (ws := wsX1_explains) B9.pre
  have hown : s.vm.findClass RX1 = some m.cls := findClass_of_methodNamed B9.named
  have hlocks := B9.notSynchronized
  have hl := lv_entry ([.int v, .int u, .int (bI z)]) (n := 3) (Nat.le_of_ble_eq_true rfl)
  rw [lg_entry_eq]
  generalize (lg_sl ([.int v, .int u, .int (bI z)]) ++ List.replicate (3 - (lg_sl ([.int v, .int u, .int (bI z)])).length) Slot.unset).toArray = ls at hl ⊢
  have hl : lv_has ls 3 [(0, .int v), (1, .int u), (2, .int (bI z))] := hl
  refine lv_iload_n hx hb dX1_explains_0 rfl (lv_at hl 0 rfl) ?_
  refine lv_iload_n hx hb dX1_explains_1 rfl (lv_at hl 1 rfl) ?_
  refine lv_iand hx hb dX1_explains_2 ?_
  refine lv_if_eq (tgt := 10) hx hb dX1_explains_3 (by decide) (fun c3 => ?_) (fun c3 => ?_)
  · skip
    refine lv_iconst (v := 0) hx hb dX1_explains_10 (by decide) ?_
    refine lv_iload_n hx hb dX1_explains_11 rfl (lv_at hl 2 rfl) ?_
    refine lv_icmp_ne (tgt := 19) hx hb dX1_explains_12 (by decide) (fun c12 => ?_) (fun c12 => ?_)
    · skip
      refine lv_iconst (v := 0) hx hb dX1_explains_19 (by decide) ?_
      exact W.zret (v := 0) (ty := .boolean) hx hb hr (rfl) (fun t9 ht9 hW9 => ⟨0, rfl, (by first | exact sx_1 c3 c12 | exact sx_0 c3 c12 | exact sx_2 c3 c12 | exact sx_3 c3 c12), ht9⟩) (fun _ h => absurd h List.not_mem_nil) dX1_explains_20
    · skip
      refine lv_iconst (v := 1) hx hb dX1_explains_15 (by decide) ?_
      refine lv_goto (tgt := 20) hx hb dX1_explains_16 (by decide) ?_
      exact W.zret (v := 1) (ty := .boolean) hx hb hr (rfl) (fun t9 ht9 hW9 => ⟨1, rfl, (by first | exact sx_1 c3 c12 | exact sx_0 c3 c12 | exact sx_2 c3 c12 | exact sx_3 c3 c12), ht9⟩) (fun _ h => absurd h List.not_mem_nil) dX1_explains_20
  · skip
    refine lv_iconst (v := 1) hx hb dX1_explains_6 (by decide) ?_
    refine lv_goto (tgt := 11) hx hb dX1_explains_7 (by decide) ?_
    refine lv_iload_n hx hb dX1_explains_11 rfl (lv_at hl 2 rfl) ?_
    refine lv_icmp_ne (tgt := 19) hx hb dX1_explains_12 (by decide) (fun c12 => ?_) (fun c12 => ?_)
    · skip
      refine lv_iconst (v := 0) hx hb dX1_explains_19 (by decide) ?_
      exact W.zret (v := 0) (ty := .boolean) hx hb hr (rfl) (fun t9 ht9 hW9 => ⟨0, rfl, (by first | exact sx_1 c3 c12 | exact sx_0 c3 c12 | exact sx_2 c3 c12 | exact sx_3 c3 c12), ht9⟩) (fun _ h => absurd h List.not_mem_nil) dX1_explains_20
    · skip
      refine lv_iconst (v := 1) hx hb dX1_explains_15 (by decide) ?_
      refine lv_goto (tgt := 20) hx hb dX1_explains_16 (by decide) ?_
      exact W.zret (v := 1) (ty := .boolean) hx hb hr (rfl) (fun t9 ht9 hW9 => ⟨1, rfl, (by first | exact sx_1 c3 c12 | exact sx_0 c3 c12 | exact sx_2 c3 c12 | exact sx_3 c3 c12), ht9⟩) (fun _ h => absurd h List.not_mem_nil) dX1_explains_20
set_option maxHeartbeats 4000000 in
set_option maxRecDepth 100000 in
theorem g_M_one (l : Launch) (z : Bool) : Met l yX1_one wsX1_one ({ frames := 0, cells := 0, slots := 0, locals := 0 }) (va_Pc [.int (bI z)] (fun _ => True)) (vp_Si (fun r => r = bI z)) 0 0 (fun _ => False) := by
  refine Met.ofW (cc := cX1_one) (maxL := 1) (ret := (some .int)) (by decide) rfl ?_
  intro p e s m args below meth c s₁ B9 hml hv
  obtain ⟨rfl, -⟩ := hv
  have hx := B9.exec
  have hb := B9.bytes
  have hr := B9.returns
  have hts := atoms_spec (ws := wsX1_one) B9.pre
  have hown : s.vm.findClass RX1 = some m.cls := findClass_of_methodNamed B9.named
  have hlocks := B9.notSynchronized
  have hl := lv_entry ([.int (bI z)]) (n := 1) (Nat.le_of_ble_eq_true rfl)
  rw [lg_entry_eq]
  generalize (lg_sl ([.int (bI z)]) ++ List.replicate (1 - (lg_sl ([.int (bI z)])).length) Slot.unset).toArray = ls at hl ⊢
  have hl : lv_has ls 1 [(0, .int (bI z))] := hl
  refine lv_iload_n hx hb dX1_one_0 rfl (lv_at hl 0 rfl) ?_
  refine lv_ifb_eq (tgt := 8) hx hb dX1_one_1 (by decide) (fun c1 => ?_) (fun c1 => ?_)
  · skip
    refine lv_iconst (v := 0) hx hb dX1_one_8 (by decide) ?_
    exact W.iret (v := 0) hx hb hr (fun t9 ht9 hW9 => ⟨0, rfl, (by rw [c1]; rfl), ht9⟩) (fun _ h => absurd h List.not_mem_nil) dX1_one_9
  · skip
    refine lv_iconst (v := 1) hx hb dX1_one_4 (by decide) ?_
    refine lv_goto (tgt := 9) hx hb dX1_one_5 (by decide) ?_
    exact W.iret (v := 1) hx hb hr (fun t9 ht9 hW9 => ⟨1, rfl, (by rw [c1]; rfl), ht9⟩) (fun _ h => absurd h List.not_mem_nil) dX1_one_9
set_option maxHeartbeats 4000000 in
set_option maxRecDepth 100000 in
theorem g_M_thrown (l : Launch) {D : va_G} {cI cZ : ClassId} {r : Nat → Nat} {th : Int32} {tc nc ac : Nat} {ch : Int32} {U : Nat → Int32} {Z : Nat → Bool} {B L F : Nat → Int32} {H : Heap} (hP : va_P D vwCl (wM cI cZ r th tc nc ac ch U Z B L F) H) (htc : tc ≤ 8) (hnc : nc ≤ 40) (hac : ac ≤ 8) : Met l yX1_thrown wsX1_thrown ({ frames := 0, cells := 0, slots := 0, locals := 0 }) (va_Pc [.ref (r 0)] (rd D vwCl (tyA cI cZ) H)) (vp_Si (fun r => r = th)) 0 0 (fun _ => False) := by
  refine Met.ofW (cc := cX1_thrown) (maxL := 1) (ret := (some .int)) (by decide) rfl ?_
  intro p e s m args below meth c s₁ B9 hml hv
  obtain ⟨rfl, hH, hK⟩ := hv
  subst hH
  have hx := B9.exec
  have hb := B9.bytes
  have hr := B9.returns
  have hts := atoms_spec (ws := wsX1_thrown) B9.pre
  have hown : s.vm.findClass RX1 = some m.cls := findClass_of_methodNamed B9.named
  have hlocks := B9.notSynchronized
  have hin : ∀ w ∈ u_ws RX1 TX1 10, w ∈ wsX1_thrown := fun w h => List.mem_cons_of_mem _ (List.mem_append_right _ h)
  have hl := lv_entry ([.ref (r 0)]) (n := 1) (Nat.le_of_ble_eq_true rfl)
  rw [lg_entry_eq]
  generalize (lg_sl ([.ref (r 0)]) ++ List.replicate (1 - (lg_sl ([.ref (r 0)])).length) Slot.unset).toArray = ls at hl ⊢
  have hl : lv_has ls 1 [(0, .ref (r 0))] := hl
  refine lv_aload_n hx hb dX1_thrown_0 rfl (lv_at hl 0 rfl) ?_
  refine va_get (D := D) (ci := 1) (v := .int th) (C := RX1) (T := TX1) (N := 10) hx hb hts hin hown hK hP 0 rfl rfl 0 (by decide) (hts (.fieldLink RX1 26 "SmudgedStarModel" "thrown" "I") (List.mem_of_getElem? (i := 1) rfl)) (fun _ h9 => h9) rfl dX1_thrown_1 ?_
  exact W.iret (v := th) hx hb hr (fun t9 ht9 hW9 => ⟨th, rfl, rfl, ht9⟩) (fun _ h => absurd h List.not_mem_nil) dX1_thrown_4
set_option maxHeartbeats 4000000 in
set_option maxRecDepth 100000 in
theorem g_M_all (l : Launch) {D : va_G} {cI cZ : ClassId} {r : Nat → Nat} {th : Int32} {tc nc ac : Nat} {ch : Int32} {U : Nat → Int32} {Z : Nat → Bool} {B L F : Nat → Int32} {H : Heap} (hP : va_P D vwCl (wM cI cZ r th tc nc ac ch U Z B L F) H) (htc : tc ≤ 8) (hnc : nc ≤ 40) (hac : ac ≤ 8) : Met l yX1_all wsX1_all ({ frames := 0, cells := 0, slots := 0, locals := 0 }) (va_Pc [.ref (r 0)] (rd D vwCl (tyA cI cZ) H)) (vp_Si (fun r => r = nI (pw tc - 1))) 0 0 (fun _ => False) := by
  refine Met.ofW (cc := cX1_all) (maxL := 1) (ret := (some .int)) (by decide) rfl ?_
  intro p e s m args below meth c s₁ B9 hml hv
  obtain ⟨rfl, hH, hK⟩ := hv
  subst hH
  have hx := B9.exec
  have hb := B9.bytes
  have hr := B9.returns
  have hts := atoms_spec (ws := wsX1_all) B9.pre
  have hown : s.vm.findClass RX1 = some m.cls := findClass_of_methodNamed B9.named
  have hlocks := B9.notSynchronized
  have hin : ∀ w ∈ u_ws RX1 TX1 10, w ∈ wsX1_all := fun w h => List.mem_cons_of_mem _ (List.mem_append_right _ h)
  have hl := lv_entry ([.ref (r 0)]) (n := 1) (Nat.le_of_ble_eq_true rfl)
  rw [lg_entry_eq]
  generalize (lg_sl ([.ref (r 0)]) ++ List.replicate (1 - (lg_sl ([.ref (r 0)])).length) Slot.unset).toArray = ls at hl ⊢
  have hl : lv_has ls 1 [(0, .ref (r 0))] := hl
  refine lv_iconst (v := 1) hx hb dX1_all_0 (by decide) ?_
  refine lv_aload_n hx hb dX1_all_1 rfl (lv_at hl 0 rfl) ?_
  refine va_get (D := D) (ci := 1) (v := .int (nI tc)) (C := RX1) (T := TX1) (N := 10) hx hb hts hin hown hK hP 0 rfl rfl 1 (by decide) (hts (.fieldLink RX1 30 "SmudgedStarModel" "things" "I") (List.mem_of_getElem? (i := 1) rfl)) (fun _ h9 => h9) rfl dX1_all_2 ?_
  refine lv_ishl hx hb dX1_all_5 ?_
  refine lv_iconst (v := 1) hx hb dX1_all_6 (by decide) ?_
  refine lv_isub hx hb dX1_all_7 ?_
  exact W.iret (v := ((1 : Int32) <<< ((nI tc) &&& 31)) - 1) hx hb hr (fun t9 ht9 hW9 => ⟨((1 : Int32) <<< ((nI tc) &&& 31)) - 1, rfl, (all_eq htc), ht9⟩) (fun _ h => absurd h List.not_mem_nil) dX1_all_8
set_option maxHeartbeats 4000000 in
set_option maxRecDepth 100000 in
theorem g_M_isThing (l : Launch) {D : va_G} {cI cZ : ClassId} {r : Nat → Nat} {th : Int32} {tc nc ac : Nat} {ch : Int32} {U : Nat → Int32} {Z : Nat → Bool} {B L F : Nat → Int32} {H : Heap} (hP : va_P D vwCl (wM cI cZ r th tc nc ac ch U Z B L F) H) (htc : tc ≤ 8) (hnc : nc ≤ 40) (hac : ac ≤ 8) {v : Int32} : Met l yX1_isThing wsX1_isThing ({ frames := 1, cells := 0, slots := 0, locals := 22 }) (va_Pc [.ref (r 0), .int v] (rd D vwCl (tyA cI cZ) H)) (vp_Si (fun r => r = bI (rg v 0 (nI tc - 1)))) 0 0 (fun _ => False) := by
  refine Met.ofW (cc := cX1_isThing) (maxL := 2) (ret := (some .boolean)) (by decide) rfl ?_
  intro p e s m args below meth c s₁ B9 hml hv
  obtain ⟨rfl, hH, hK⟩ := hv
  subst hH
  have hx := B9.exec
  have hb := B9.bytes
  have hr := B9.returns
  have hts := atoms_spec (ws := wsX1_isThing) B9.pre
  have hown : s.vm.findClass RX1 = some m.cls := findClass_of_methodNamed B9.named
  have hlocks := B9.notSynchronized
  have hin : ∀ w ∈ u_ws RX1 TX1 10, w ∈ wsX1_isThing := fun w h => List.mem_cons_of_mem _ (List.mem_append_right _ h)
  have hl := lv_entry ([.ref (r 0), .int v]) (n := 2) (Nat.le_of_ble_eq_true rfl)
  rw [lg_entry_eq]
  generalize (lg_sl ([.ref (r 0), .int v]) ++ List.replicate (2 - (lg_sl ([.ref (r 0), .int v])).length) Slot.unset).toArray = ls at hl ⊢
  have hl : lv_has ls 2 [(0, .ref (r 0)), (1, .int v)] := hl
  refine lv_iload_n hx hb dX1_isThing_0 rfl (lv_at hl 1 rfl) ?_
  refine lv_iconst (v := 0) hx hb dX1_isThing_1 (by decide) ?_
  refine lv_aload_n hx hb dX1_isThing_2 rfl (lv_at hl 0 rfl) ?_
  refine va_get (D := D) (ci := 1) (v := .int (nI tc)) (C := RX1) (T := TX1) (N := 10) hx hb hts hin hown hK hP 0 rfl rfl 1 (by decide) (hts (.fieldLink RX1 30 "SmudgedStarModel" "things" "I") (List.mem_of_getElem? (i := 1) rfl)) (fun _ h9 => h9) rfl dX1_isThing_3 ?_
  refine lv_iconst (v := 1) hx hb dX1_isThing_6 (by decide) ?_
  refine lv_isub hx hb dX1_isThing_7 ?_
  refine pcS_i (As := [.int v, .int 0, .int ((nI tc) - 1)]) (rest := []) ⟨hx, hb, hml, hown, hts⟩ (g_M_isIn l v 0 ((nI tc) - 1)) (va_cwS 3 hts gX1_isThing_X1_isIn rfl rfl rfl hdX1_isIn ⟨Nat.le_of_ble_eq_true rfl, Nat.le_of_ble_eq_true rfl⟩) rfl hl.1 (Nat.le_of_ble_eq_true rfl) rfl dX1_isThing_8 ⟨Nat.le_of_ble_eq_true rfl, Nat.le_of_ble_eq_true rfl⟩ ?_
  exact W.zret (v := bI (rg v 0 ((nI tc) - 1))) (ty := .boolean) hx hb hr (bI_nar _) (fun t9 ht9 hW9 => ⟨bI (rg v 0 ((nI tc) - 1)), rfl, rfl, ht9⟩) (fun _ h => absurd h List.not_mem_nil) dX1_isThing_11
set_option maxHeartbeats 4000000 in
set_option maxRecDepth 100000 in
theorem g_M_isNight (l : Launch) {D : va_G} {cI cZ : ClassId} {r : Nat → Nat} {th : Int32} {tc nc ac : Nat} {ch : Int32} {U : Nat → Int32} {Z : Nat → Bool} {B L F : Nat → Int32} {H : Heap} (hP : va_P D vwCl (wM cI cZ r th tc nc ac ch U Z B L F) H) (htc : tc ≤ 8) (hnc : nc ≤ 40) (hac : ac ≤ 8) {v : Int32} : Met l yX1_isNight wsX1_isNight ({ frames := 1, cells := 0, slots := 0, locals := 22 }) (va_Pc [.ref (r 0), .int v] (rd D vwCl (tyA cI cZ) H)) (vp_Si (fun r => r = bI (rg v 0 (nI nc - 1)))) 0 0 (fun _ => False) := by
  refine Met.ofW (cc := cX1_isNight) (maxL := 2) (ret := (some .boolean)) (by decide) rfl ?_
  intro p e s m args below meth c s₁ B9 hml hv
  obtain ⟨rfl, hH, hK⟩ := hv
  subst hH
  have hx := B9.exec
  have hb := B9.bytes
  have hr := B9.returns
  have hts := atoms_spec (ws := wsX1_isNight) B9.pre
  have hown : s.vm.findClass RX1 = some m.cls := findClass_of_methodNamed B9.named
  have hlocks := B9.notSynchronized
  have hin : ∀ w ∈ u_ws RX1 TX1 10, w ∈ wsX1_isNight := fun w h => List.mem_cons_of_mem _ (List.mem_append_right _ h)
  have hl := lv_entry ([.ref (r 0), .int v]) (n := 2) (Nat.le_of_ble_eq_true rfl)
  rw [lg_entry_eq]
  generalize (lg_sl ([.ref (r 0), .int v]) ++ List.replicate (2 - (lg_sl ([.ref (r 0), .int v])).length) Slot.unset).toArray = ls at hl ⊢
  have hl : lv_has ls 2 [(0, .ref (r 0)), (1, .int v)] := hl
  refine lv_iload_n hx hb dX1_isNight_0 rfl (lv_at hl 1 rfl) ?_
  refine lv_iconst (v := 0) hx hb dX1_isNight_1 (by decide) ?_
  refine lv_aload_n hx hb dX1_isNight_2 rfl (lv_at hl 0 rfl) ?_
  refine va_get (D := D) (ci := 1) (v := .int (nI nc)) (C := RX1) (T := TX1) (N := 10) hx hb hts hin hown hK hP 0 rfl rfl 2 (by decide) (hts (.fieldLink RX1 37 "SmudgedStarModel" "nights" "I") (List.mem_of_getElem? (i := 1) rfl)) (fun _ h9 => h9) rfl dX1_isNight_3 ?_
  refine lv_iconst (v := 1) hx hb dX1_isNight_6 (by decide) ?_
  refine lv_isub hx hb dX1_isNight_7 ?_
  refine pcS_i (As := [.int v, .int 0, .int ((nI nc) - 1)]) (rest := []) ⟨hx, hb, hml, hown, hts⟩ (g_M_isIn l v 0 ((nI nc) - 1)) (va_cwS 3 hts gX1_isNight_X1_isIn rfl rfl rfl hdX1_isIn ⟨Nat.le_of_ble_eq_true rfl, Nat.le_of_ble_eq_true rfl⟩) rfl hl.1 (Nat.le_of_ble_eq_true rfl) rfl dX1_isNight_8 ⟨Nat.le_of_ble_eq_true rfl, Nat.le_of_ble_eq_true rfl⟩ ?_
  exact W.zret (v := bI (rg v 0 ((nI nc) - 1))) (ty := .boolean) hx hb hr (bI_nar _) (fun t9 ht9 hW9 => ⟨bI (rg v 0 ((nI nc) - 1)), rfl, rfl, ht9⟩) (fun _ h => absurd h List.not_mem_nil) dX1_isNight_11
set_option maxHeartbeats 4000000 in
set_option maxRecDepth 100000 in
theorem g_M_isAstronomer (l : Launch) {D : va_G} {cI cZ : ClassId} {r : Nat → Nat} {th : Int32} {tc nc ac : Nat} {ch : Int32} {U : Nat → Int32} {Z : Nat → Bool} {B L F : Nat → Int32} {H : Heap} (hP : va_P D vwCl (wM cI cZ r th tc nc ac ch U Z B L F) H) (htc : tc ≤ 8) (hnc : nc ≤ 40) (hac : ac ≤ 8) {v : Int32} : Met l yX1_isAstronomer wsX1_isAstronomer ({ frames := 1, cells := 0, slots := 0, locals := 22 }) (va_Pc [.ref (r 0), .int v] (rd D vwCl (tyA cI cZ) H)) (vp_Si (fun r => r = bI (rg v 0 (nI ac - 1)))) 0 0 (fun _ => False) := by
  refine Met.ofW (cc := cX1_isAstronomer) (maxL := 2) (ret := (some .boolean)) (by decide) rfl ?_
  intro p e s m args below meth c s₁ B9 hml hv
  obtain ⟨rfl, hH, hK⟩ := hv
  subst hH
  have hx := B9.exec
  have hb := B9.bytes
  have hr := B9.returns
  have hts := atoms_spec (ws := wsX1_isAstronomer) B9.pre
  have hown : s.vm.findClass RX1 = some m.cls := findClass_of_methodNamed B9.named
  have hlocks := B9.notSynchronized
  have hin : ∀ w ∈ u_ws RX1 TX1 10, w ∈ wsX1_isAstronomer := fun w h => List.mem_cons_of_mem _ (List.mem_append_right _ h)
  have hl := lv_entry ([.ref (r 0), .int v]) (n := 2) (Nat.le_of_ble_eq_true rfl)
  rw [lg_entry_eq]
  generalize (lg_sl ([.ref (r 0), .int v]) ++ List.replicate (2 - (lg_sl ([.ref (r 0), .int v])).length) Slot.unset).toArray = ls at hl ⊢
  have hl : lv_has ls 2 [(0, .ref (r 0)), (1, .int v)] := hl
  refine lv_iload_n hx hb dX1_isAstronomer_0 rfl (lv_at hl 1 rfl) ?_
  refine lv_iconst (v := 0) hx hb dX1_isAstronomer_1 (by decide) ?_
  refine lv_aload_n hx hb dX1_isAstronomer_2 rfl (lv_at hl 0 rfl) ?_
  refine va_get (D := D) (ci := 1) (v := .int (nI ac)) (C := RX1) (T := TX1) (N := 10) hx hb hts hin hown hK hP 0 rfl rfl 5 (by decide) (hts (.fieldLink RX1 40 "SmudgedStarModel" "astronomers" "I") (List.mem_of_getElem? (i := 1) rfl)) (fun _ h9 => h9) rfl dX1_isAstronomer_3 ?_
  refine lv_iconst (v := 1) hx hb dX1_isAstronomer_6 (by decide) ?_
  refine lv_isub hx hb dX1_isAstronomer_7 ?_
  refine pcS_i (As := [.int v, .int 0, .int ((nI ac) - 1)]) (rest := []) ⟨hx, hb, hml, hown, hts⟩ (g_M_isIn l v 0 ((nI ac) - 1)) (va_cwS 3 hts gX1_isAstronomer_X1_isIn rfl rfl rfl hdX1_isIn ⟨Nat.le_of_ble_eq_true rfl, Nat.le_of_ble_eq_true rfl⟩) rfl hl.1 (Nat.le_of_ble_eq_true rfl) rfl dX1_isAstronomer_8 ⟨Nat.le_of_ble_eq_true rfl, Nat.le_of_ble_eq_true rfl⟩ ?_
  exact W.zret (v := bI (rg v 0 ((nI ac) - 1))) (ty := .boolean) hx hb hr (bI_nar _) (fun t9 ht9 hW9 => ⟨bI (rg v 0 ((nI ac) - 1)), rfl, rfl, ht9⟩) (fun _ h => absurd h List.not_mem_nil) dX1_isAstronomer_11
set_option maxHeartbeats 4000000 in
set_option maxRecDepth 100000 in
theorem g_M_unexplained (l : Launch) {D : va_G} {cI cZ : ClassId} {r : Nat → Nat} {th : Int32} {tc nc ac : Nat} {ch : Int32} {U : Nat → Int32} {Z : Nat → Bool} {B L F : Nat → Int32} {H : Heap} (hP : va_P D vwCl (wM cI cZ r th tc nc ac ch U Z B L F) H) (htc : tc ≤ 8) (hnc : nc ≤ 40) (hac : ac ≤ 8) {v : Int32} : Met l yX1_unexplained wsX1_unexplained ({ frames := 1, cells := 0, slots := 0, locals := 22 }) (va_Pc [.ref (r 0), .int v] (rd D vwCl (tyA cI cZ) H)) (vp_Si (fun r => r = nI (un U Z v nc))) 0 0 (fun _ => False) := by
  refine Met.ofW (cc := cX1_unexplained) (maxL := 4) (ret := (some .int)) (by decide) rfl ?_
  intro p e s m args below meth c s₁ B9 hml hv
  obtain ⟨rfl, hH, hK⟩ := hv
  subst hH
  have hx := B9.exec
  have hb := B9.bytes
  have hr := B9.returns
  have hts := atoms_spec (ws := wsX1_unexplained) B9.pre
  have hown : s.vm.findClass RX1 = some m.cls := findClass_of_methodNamed B9.named
  have hlocks := B9.notSynchronized
  have hin : ∀ w ∈ u_ws RX1 TX1 10, w ∈ wsX1_unexplained := fun w h => List.mem_cons_of_mem _ (List.mem_append_right _ h)
  have hl := lv_entry ([.ref (r 0), .int v]) (n := 4) (Nat.le_of_ble_eq_true rfl)
  rw [lg_entry_eq]
  generalize (lg_sl ([.ref (r 0), .int v]) ++ List.replicate (4 - (lg_sl ([.ref (r 0), .int v])).length) Slot.unset).toArray = ls at hl ⊢
  have hl : lv_has ls 4 [(0, .ref (r 0)), (1, .int v)] := hl
  refine lv_iconst (v := 0) hx hb dX1_unexplained_0 (by decide) ?_
  refine lv_istore_n (lv' := [(2, .int 0), (0, .ref (r 0)), (1, .int v)]) hx hb dX1_unexplained_1 rfl hl (by decide) rfl (fun ls hl => ?_)
  refine lv_iconst (v := 0) hx hb dX1_unexplained_2 (by decide) ?_
  refine lv_istore_n (lv' := [(3, .int 0), (2, .int 0), (0, .ref (r 0)), (1, .int v)]) hx hb dX1_unexplained_3 rfl hl (by decide) rfl (fun ls hl => ?_)
  refine w_loop (N := nc) (T := fun i => [(3, .int (nI i)), (2, .int (nI (ct (fun j => !(sx v (U j) (Z j))) i))), (0, .ref (r 0)), (1, .int v)]) (I := fun _ => True) 0 (Nat.zero_le _) trivial (lv_sub hl [0, 1, 2, 3] rfl) (fun i ls hi hI hl ih => ?_)
  have hl : lv_has ls 4 [(3, .int (nI i)), (2, .int (nI (ct (fun j => !(sx v (U j) (Z j))) i))), (0, .ref (r 0)), (1, .int v)] := hl
  refine lv_iload_n hx hb dX1_unexplained_4 rfl (lv_at hl 0 rfl) ?_
  refine lv_aload_n hx hb dX1_unexplained_5 rfl (lv_at hl 2 rfl) ?_
  refine va_get (D := D) (ci := 1) (v := .int (nI nc)) (C := RX1) (T := TX1) (N := 10) hx hb hts hin hown hK hP 0 rfl rfl 2 (by decide) (hts (.fieldLink RX1 37 "SmudgedStarModel" "nights" "I") (List.mem_of_getElem? (i := 1) rfl)) (fun _ h9 => h9) rfl dX1_unexplained_6 ?_
  refine lv_icmp_ge (tgt := 45) hx hb dX1_unexplained_9 (by decide) (fun c9 => ?_) (fun c9 => ?_)
  · skip
    have hie : i = nc := gd_ge_t (by omega) hi c9
    rw [hie] at hl
    refine lv_iload_n hx hb dX1_unexplained_45 rfl (lv_at hl 1 rfl) ?_
    exact W.iret (v := nI (ct (fun j => !(sx v (U j) (Z j))) nc)) hx hb hr (fun t9 ht9 hW9 => ⟨nI (ct (fun j => !(sx v (U j) (Z j))) nc), rfl, rfl, ht9⟩) (fun _ h => absurd h List.not_mem_nil) dX1_unexplained_46
  · skip
    have hlt : i < nc := gd_ge_f hi c9
    refine lv_iload_n hx hb dX1_unexplained_12 rfl (lv_at hl 1 rfl) ?_
    refine lv_iload_n hx hb dX1_unexplained_13 rfl (lv_at hl 3 rfl) ?_
    refine lv_aload_n hx hb dX1_unexplained_14 rfl (lv_at hl 2 rfl) ?_
    refine va_get (D := D) (ci := 1) (v := .ref (r 1)) (C := RX1) (T := TX1) (N := 10) hx hb hts hin hown hK hP 0 rfl rfl 3 (by decide) (hts (.fieldLink RX1 9 "SmudgedStarModel" "used" "[I") (List.mem_of_getElem? (i := 2) rfl)) (fun _ h9 => h9) rfl dX1_unexplained_15 ?_
    refine lv_iload_n hx hb dX1_unexplained_18 rfl (lv_at hl 0 rfl) ?_
    refine ia_ld hx hb hK hP 1 0 rfl rfl (j := i) (by omega) (by decide) dX1_unexplained_19 ?_
    refine lv_aload_n hx hb dX1_unexplained_20 rfl (lv_at hl 2 rfl) ?_
    refine va_get (D := D) (ci := 1) (v := .ref (r 2)) (C := RX1) (T := TX1) (N := 10) hx hb hts hin hown hK hP 0 rfl rfl 4 (by decide) (hts (.fieldLink RX1 13 "SmudgedStarModel" "smudged" "[Z") (List.mem_of_getElem? (i := 3) rfl)) (fun _ h9 => h9) rfl dX1_unexplained_21 ?_
    refine lv_iload_n hx hb dX1_unexplained_24 rfl (lv_at hl 0 rfl) ?_
    refine za_ld (f := Z) hx hb hK hP 2 1 rfl rfl (j := i) (by omega) (by decide) dX1_unexplained_25 ?_
    refine pcS_i (As := [.int v, .int (U i), .int (bI (Z i))]) (rest := [.int (nI (ct (fun j => !(sx v (U j) (Z j))) i))]) ⟨hx, hb, hml, hown, hts⟩ (g_M_explains l v (U i) (Z i)) (va_cwS 3 hts gX1_unexplained_X1_explains rfl rfl rfl hdX1_explains ⟨Nat.le_of_ble_eq_true rfl, Nat.le_of_ble_eq_true rfl⟩) rfl hl.1 (Nat.le_of_ble_eq_true rfl) rfl dX1_unexplained_26 ⟨Nat.le_of_ble_eq_true rfl, Nat.le_of_ble_eq_true rfl⟩ ?_
    refine lv_ifb_eq (tgt := 36) hx hb dX1_unexplained_29 (by decide) (fun c29 => ?_) (fun c29 => ?_)
    · skip
      refine lv_iconst (v := 1) hx hb dX1_unexplained_36 (by decide) ?_
      refine lv_iadd hx hb dX1_unexplained_37 ?_
      refine lv_istore_n (lv' := [(2, .int ((nI (ct (fun j => !(sx v (U j) (Z j))) i)) + 1)), (3, .int (nI i)), (0, .ref (r 0)), (1, .int v)]) hx hb dX1_unexplained_38 rfl hl (by decide) rfl (fun ls hl => ?_)
      refine lv_iinc (v := nI (i + 1)) (lv' := [(3, .int (nI (i + 1))), (2, .int ((nI (ct (fun j => !(sx v (U j) (Z j))) i)) + 1)), (0, .ref (r 0)), (1, .int v)]) hx hb dX1_unexplained_39 hl (k := 1) rfl (nI_1 _) (by decide) rfl (fun ls hl => ?_)
      refine lv_goto (tgt := 4) hx hb dX1_unexplained_42 (by decide) ?_
      have e2 : ((nI (ct (fun j => !(sx v (U j) (Z j))) i)) + 1) = nI (ct (fun j => !(sx v (U j) (Z j))) (i + 1)) := by first | exact ct_t1 (by simp [c9, c29]) | exact ct_t (by simp [c9, c29]) | exact ct_f (by simp [c9, c29]) | exact ct_f0 (by simp [c9, c29])
      have hl := lv_sub (l' := [(3, .int (nI (i + 1))), (2, .int ((nI (ct (fun j => !(sx v (U j) (Z j))) i)) + 1)), (0, .ref (r 0)), (1, .int v)]) hl [0, 1, 2, 3] rfl
      rw [e2] at hl
      exact ih ls hlt trivial hl
    · skip
      refine lv_iconst (v := 0) hx hb dX1_unexplained_32 (by decide) ?_
      refine lv_goto (tgt := 37) hx hb dX1_unexplained_33 (by decide) ?_
      refine lv_iadd hx hb dX1_unexplained_37 ?_
      refine lv_istore_n (lv' := [(2, .int ((nI (ct (fun j => !(sx v (U j) (Z j))) i)) + 0)), (3, .int (nI i)), (0, .ref (r 0)), (1, .int v)]) hx hb dX1_unexplained_38 rfl hl (by decide) rfl (fun ls hl => ?_)
      refine lv_iinc (v := nI (i + 1)) (lv' := [(3, .int (nI (i + 1))), (2, .int ((nI (ct (fun j => !(sx v (U j) (Z j))) i)) + 0)), (0, .ref (r 0)), (1, .int v)]) hx hb dX1_unexplained_39 hl (k := 1) rfl (nI_1 _) (by decide) rfl (fun ls hl => ?_)
      refine lv_goto (tgt := 4) hx hb dX1_unexplained_42 (by decide) ?_
      have e2 : ((nI (ct (fun j => !(sx v (U j) (Z j))) i)) + 0) = nI (ct (fun j => !(sx v (U j) (Z j))) (i + 1)) := by first | exact ct_t1 (by simp [c9, c29]) | exact ct_t (by simp [c9, c29]) | exact ct_f (by simp [c9, c29]) | exact ct_f0 (by simp [c9, c29])
      have hl := lv_sub (l' := [(3, .int (nI (i + 1))), (2, .int ((nI (ct (fun j => !(sx v (U j) (Z j))) i)) + 0)), (0, .ref (r 0)), (1, .int v)]) hl [0, 1, 2, 3] rfl
      rw [e2] at hl
      exact ih ls hlt trivial hl
set_option maxHeartbeats 4000000 in
set_option maxRecDepth 100000 in
theorem g_M_explaining (l : Launch) {D : va_G} {cI cZ : ClassId} {r : Nat → Nat} {th : Int32} {tc nc ac : Nat} {ch : Int32} {U : Nat → Int32} {Z : Nat → Bool} {B L F : Nat → Int32} {H : Heap} (hP : va_P D vwCl (wM cI cZ r th tc nc ac ch U Z B L F) H) (htc : tc ≤ 8) (hnc : nc ≤ 40) (hac : ac ≤ 8) : Met l yX1_explaining wsX1_explaining ({ frames := 2, cells := 0, slots := 0, locals := 45 }) (va_Pc [.ref (r 0)] (rd D vwCl (tyA cI cZ) H)) (vp_Si (fun r => r = nI (ex U Z nc (pw tc)))) 0 0 (fun _ => False) := by
  refine Met.ofW (cc := cX1_explaining) (maxL := 3) (ret := (some .int)) (by decide) rfl ?_
  intro p e s m args below meth c s₁ B9 hml hv
  obtain ⟨rfl, hH, hK⟩ := hv
  subst hH
  have hx := B9.exec
  have hb := B9.bytes
  have hr := B9.returns
  have hts := atoms_spec (ws := wsX1_explaining) B9.pre
  have hown : s.vm.findClass RX1 = some m.cls := findClass_of_methodNamed B9.named
  have hlocks := B9.notSynchronized
  have hl := lv_entry ([.ref (r 0)]) (n := 3) (Nat.le_of_ble_eq_true rfl)
  rw [lg_entry_eq]
  generalize (lg_sl ([.ref (r 0)]) ++ List.replicate (3 - (lg_sl ([.ref (r 0)])).length) Slot.unset).toArray = ls at hl ⊢
  have hl : lv_has ls 3 [(0, .ref (r 0))] := hl
  have hpw := pw_in htc
  refine lv_iconst (v := 0) hx hb dX1_explaining_0 (by decide) ?_
  refine lv_istore_n (lv' := [(1, .int 0), (0, .ref (r 0))]) hx hb dX1_explaining_1 rfl hl (by decide) rfl (fun ls hl => ?_)
  refine lv_iconst (v := 0) hx hb dX1_explaining_2 (by decide) ?_
  refine lv_istore_n (lv' := [(2, .int 0), (1, .int 0), (0, .ref (r 0))]) hx hb dX1_explaining_3 rfl hl (by decide) rfl (fun ls hl => ?_)
  refine w_loop (N := pw tc) (T := fun i => [(2, .int (nI i)), (1, .int (nI (ct (fun k => zz U Z nc k) i))), (0, .ref (r 0))]) (I := fun _ => True) 0 (Nat.zero_le _) trivial (lv_sub hl [0, 1, 2] rfl) (fun i ls hi hI hl ih => ?_)
  have hl : lv_has ls 3 [(2, .int (nI i)), (1, .int (nI (ct (fun k => zz U Z nc k) i))), (0, .ref (r 0))] := hl
  refine lv_iload_n hx hb dX1_explaining_4 rfl (lv_at hl 0 rfl) ?_
  refine lv_aload_n hx hb dX1_explaining_5 rfl (lv_at hl 2 rfl) ?_
  refine pcV_i (As := []) (rest := [.int (nI i)]) ⟨hx, hb, hml, hown, hts⟩ (g_M_all l hP htc hnc hac) (cwV 0 hts gX1_explaining_X1_all rfl rfl rfl hdX1_all ⟨Nat.le_of_ble_eq_true rfl, Nat.le_of_ble_eq_true rfl⟩) (va_recv hK hP (ci := 1) (q0 := 0) rfl rfl) hK rfl hl.1 (Nat.le_of_ble_eq_true rfl) rfl dX1_explaining_6 ⟨Nat.le_of_ble_eq_true rfl, Nat.le_of_ble_eq_true rfl⟩ ?_
  refine lv_icmp_gt (tgt := 34) hx hb dX1_explaining_9 (by decide) (fun c9 => ?_) (fun c9 => ?_)
  · skip
    have hie : i = pw tc := gd_gt_t htc hi c9
    rw [hie] at hl
    refine lv_iload_n hx hb dX1_explaining_34 rfl (lv_at hl 1 rfl) ?_
    exact W.iret (v := nI (ct (fun k => zz U Z nc k) (pw tc))) hx hb hr (fun t9 ht9 hW9 => ⟨nI (ct (fun k => zz U Z nc k) (pw tc)), rfl, rfl, ht9⟩) (fun _ h => absurd h List.not_mem_nil) dX1_explaining_35
  · skip
    have hlt : i < pw tc := gd_gt_f htc hi c9
    refine lv_iload_n hx hb dX1_explaining_12 rfl (lv_at hl 1 rfl) ?_
    refine lv_aload_n hx hb dX1_explaining_13 rfl (lv_at hl 2 rfl) ?_
    refine lv_iload_n hx hb dX1_explaining_14 rfl (lv_at hl 0 rfl) ?_
    refine pcV_i (As := [.int (nI i)]) (rest := [.int (nI (ct (fun k => zz U Z nc k) i))]) ⟨hx, hb, hml, hown, hts⟩ (g_M_unexplained l hP htc hnc hac (v := nI i)) (cwV 1 hts gX1_explaining_X1_unexplained rfl rfl rfl hdX1_unexplained ⟨Nat.le_of_ble_eq_true rfl, Nat.le_of_ble_eq_true rfl⟩) (va_recv hK hP (ci := 1) (q0 := 0) rfl rfl) hK rfl hl.1 (Nat.le_of_ble_eq_true rfl) rfl dX1_explaining_15 ⟨Nat.le_of_ble_eq_true rfl, Nat.le_of_ble_eq_true rfl⟩ ?_
    refine lv_if_ne (tgt := 25) hx hb dX1_explaining_18 (by decide) (fun c18 => ?_) (fun c18 => ?_)
    · skip
      refine lv_iconst (v := 0) hx hb dX1_explaining_25 (by decide) ?_
      refine lv_iadd hx hb dX1_explaining_26 ?_
      refine lv_istore_n (lv' := [(1, .int ((nI (ct (fun k => zz U Z nc k) i)) + 0)), (2, .int (nI i)), (0, .ref (r 0))]) hx hb dX1_explaining_27 rfl hl (by decide) rfl (fun ls hl => ?_)
      refine lv_iinc (v := nI (i + 1)) (lv' := [(2, .int (nI (i + 1))), (1, .int ((nI (ct (fun k => zz U Z nc k) i)) + 0)), (0, .ref (r 0))]) hx hb dX1_explaining_28 hl (k := 1) rfl (nI_1 _) (by decide) rfl (fun ls hl => ?_)
      refine lv_goto (tgt := 4) hx hb dX1_explaining_31 (by decide) ?_
      have e1 : ((nI (ct (fun k => zz U Z nc k) i)) + 0) = nI (ct (fun k => zz U Z nc k) (i + 1)) := by first | exact ct_t (zz_t c18) | exact ct_f0 (zz_f c18)
      have hl := lv_sub (l' := [(2, .int (nI (i + 1))), (1, .int ((nI (ct (fun k => zz U Z nc k) i)) + 0)), (0, .ref (r 0))]) hl [0, 1, 2] rfl
      rw [e1] at hl
      exact ih ls hlt trivial hl
    · skip
      refine lv_iconst (v := 1) hx hb dX1_explaining_21 (by decide) ?_
      refine lv_goto (tgt := 26) hx hb dX1_explaining_22 (by decide) ?_
      refine lv_iadd hx hb dX1_explaining_26 ?_
      refine lv_istore_n (lv' := [(1, .int ((nI (ct (fun k => zz U Z nc k) i)) + 1)), (2, .int (nI i)), (0, .ref (r 0))]) hx hb dX1_explaining_27 rfl hl (by decide) rfl (fun ls hl => ?_)
      refine lv_iinc (v := nI (i + 1)) (lv' := [(2, .int (nI (i + 1))), (1, .int ((nI (ct (fun k => zz U Z nc k) i)) + 1)), (0, .ref (r 0))]) hx hb dX1_explaining_28 hl (k := 1) rfl (nI_1 _) (by decide) rfl (fun ls hl => ?_)
      refine lv_goto (tgt := 4) hx hb dX1_explaining_31 (by decide) ?_
      have e1 : ((nI (ct (fun k => zz U Z nc k) i)) + 1) = nI (ct (fun k => zz U Z nc k) (i + 1)) := by first | exact ct_t (zz_t c18) | exact ct_f0 (zz_f c18)
      have hl := lv_sub (l' := [(2, .int (nI (i + 1))), (1, .int ((nI (ct (fun k => zz U Z nc k) i)) + 1)), (0, .ref (r 0))]) hl [0, 1, 2] rfl
      rw [e1] at hl
      exact ih ls hlt trivial hl
set_option maxHeartbeats 4000000 in
set_option maxRecDepth 100000 in
theorem g_M_fewest (l : Launch) {D : va_G} {cI cZ : ClassId} {r : Nat → Nat} {th : Int32} {tc nc ac : Nat} {ch : Int32} {U : Nat → Int32} {Z : Nat → Bool} {B L F : Nat → Int32} {H : Heap} (hP : va_P D vwCl (wM cI cZ r th tc nc ac ch U Z B L F) H) (htc : tc ≤ 8) (hnc : nc ≤ 40) (hac : ac ≤ 8) : Met l yX1_fewest wsX1_fewest ({ frames := 2, cells := 0, slots := 0, locals := 45 }) (va_Pc [.ref (r 0)] (rd D vwCl (tyA cI cZ) H)) (vp_Si (fun r => r = smm (fun k => zz U Z nc k) (pw tc))) 0 0 (fun _ => False) := by
  refine Met.ofW (cc := cX1_fewest) (maxL := 3) (ret := (some .int)) (by decide) rfl ?_
  intro p e s m args below meth c s₁ B9 hml hv
  obtain ⟨rfl, hH, hK⟩ := hv
  subst hH
  have hx := B9.exec
  have hb := B9.bytes
  have hr := B9.returns
  have hts := atoms_spec (ws := wsX1_fewest) B9.pre
  have hown : s.vm.findClass RX1 = some m.cls := findClass_of_methodNamed B9.named
  have hlocks := B9.notSynchronized
  have hl := lv_entry ([.ref (r 0)]) (n := 3) (Nat.le_of_ble_eq_true rfl)
  rw [lg_entry_eq]
  generalize (lg_sl ([.ref (r 0)]) ++ List.replicate (3 - (lg_sl ([.ref (r 0)])).length) Slot.unset).toArray = ls at hl ⊢
  have hl : lv_has ls 3 [(0, .ref (r 0))] := hl
  have hpw := pw_in htc
  refine lv_iconst (v := (-1)) hx hb dX1_fewest_0 (by decide) ?_
  refine lv_istore_n (lv' := [(1, .int (-1)), (0, .ref (r 0))]) hx hb dX1_fewest_1 rfl hl (by decide) rfl (fun ls hl => ?_)
  refine lv_iconst (v := 0) hx hb dX1_fewest_2 (by decide) ?_
  refine lv_istore_n (lv' := [(2, .int 0), (1, .int (-1)), (0, .ref (r 0))]) hx hb dX1_fewest_3 rfl hl (by decide) rfl (fun ls hl => ?_)
  refine w_loop (N := pw tc) (T := fun i => [(2, .int (nI i)), (1, .int (smm (fun k => zz U Z nc k) i)), (0, .ref (r 0))]) (I := fun _ => True) 0 (Nat.zero_le _) trivial (lv_sub hl [0, 1, 2] rfl) (fun i ls hi hI hl ih => ?_)
  have hl : lv_has ls 3 [(2, .int (nI i)), (1, .int (smm (fun k => zz U Z nc k) i)), (0, .ref (r 0))] := hl
  refine lv_iload_n hx hb dX1_fewest_4 rfl (lv_at hl 0 rfl) ?_
  refine lv_aload_n hx hb dX1_fewest_5 rfl (lv_at hl 2 rfl) ?_
  refine pcV_i (As := []) (rest := [.int (nI i)]) ⟨hx, hb, hml, hown, hts⟩ (g_M_all l hP htc hnc hac) (cwV 0 hts gX1_fewest_X1_all rfl rfl rfl hdX1_all ⟨Nat.le_of_ble_eq_true rfl, Nat.le_of_ble_eq_true rfl⟩) (va_recv hK hP (ci := 1) (q0 := 0) rfl rfl) hK rfl hl.1 (Nat.le_of_ble_eq_true rfl) rfl dX1_fewest_6 ⟨Nat.le_of_ble_eq_true rfl, Nat.le_of_ble_eq_true rfl⟩ ?_
  refine lv_icmp_gt (tgt := 44) hx hb dX1_fewest_9 (by decide) (fun c9 => ?_) (fun c9 => ?_)
  · skip
    have hie : i = pw tc := gd_gt_t htc hi c9
    rw [hie] at hl
    refine lv_iload_n hx hb dX1_fewest_44 rfl (lv_at hl 1 rfl) ?_
    exact W.iret (v := smm (fun k => zz U Z nc k) (pw tc)) hx hb hr (fun t9 ht9 hW9 => ⟨smm (fun k => zz U Z nc k) (pw tc), rfl, rfl, ht9⟩) (fun _ h => absurd h List.not_mem_nil) dX1_fewest_45
  · skip
    have hlt : i < pw tc := gd_gt_f htc hi c9
    refine lv_aload_n hx hb dX1_fewest_12 rfl (lv_at hl 2 rfl) ?_
    refine lv_iload_n hx hb dX1_fewest_13 rfl (lv_at hl 0 rfl) ?_
    refine pcV_i (As := [.int (nI i)]) (rest := []) ⟨hx, hb, hml, hown, hts⟩ (g_M_unexplained l hP htc hnc hac (v := nI i)) (cwV 1 hts gX1_fewest_X1_unexplained rfl rfl rfl hdX1_unexplained ⟨Nat.le_of_ble_eq_true rfl, Nat.le_of_ble_eq_true rfl⟩) (va_recv hK hP (ci := 1) (q0 := 0) rfl rfl) hK rfl hl.1 (Nat.le_of_ble_eq_true rfl) rfl dX1_fewest_14 ⟨Nat.le_of_ble_eq_true rfl, Nat.le_of_ble_eq_true rfl⟩ ?_
    refine lv_if_ne (tgt := 38) hx hb dX1_fewest_17 (by decide) (fun c17 => ?_) (fun c17 => ?_)
    · skip
      refine lv_iinc (v := nI (i + 1)) (lv' := [(2, .int (nI (i + 1))), (1, .int (smm (fun k => zz U Z nc k) i)), (0, .ref (r 0))]) hx hb dX1_fewest_38 hl (k := 0) rfl (nI_1 _) (by decide) rfl (fun ls hl => ?_)
      refine lv_goto (tgt := 4) hx hb dX1_fewest_41 (by decide) ?_
      have e1 : (smm (fun k => zz U Z nc k) i) = smm (fun k => zz U Z nc k) (i + 1) := by first | exact smm_f (zz_f c17) | exact smm_a (zz_t c17) c22 | exact smm_b (zz_t c17) c33 | exact smm_g c22 c33
      have hl := lv_sub (l' := [(2, .int (nI (i + 1))), (1, .int (smm (fun k => zz U Z nc k) i)), (0, .ref (r 0))]) hl [0, 1, 2] rfl
      rw [e1] at hl
      exact ih ls hlt trivial hl
    · skip
      refine lv_iload_n hx hb dX1_fewest_20 rfl (lv_at hl 1 rfl) ?_
      refine lv_iconst (v := (-1)) hx hb dX1_fewest_21 (by decide) ?_
      refine lv_icmp_eq (tgt := 36) hx hb dX1_fewest_22 (by decide) (fun c22 => ?_) (fun c22 => ?_)
      · skip
        refine lv_iload_n hx hb dX1_fewest_36 rfl (lv_at hl 0 rfl) ?_
        refine lv_istore_n (lv' := [(1, .int (nI i)), (2, .int (nI i)), (0, .ref (r 0))]) hx hb dX1_fewest_37 rfl hl (by decide) rfl (fun ls hl => ?_)
        refine lv_iinc (v := nI (i + 1)) (lv' := [(2, .int (nI (i + 1))), (1, .int (nI i)), (0, .ref (r 0))]) hx hb dX1_fewest_38 hl (k := 1) rfl (nI_1 _) (by decide) rfl (fun ls hl => ?_)
        refine lv_goto (tgt := 4) hx hb dX1_fewest_41 (by decide) ?_
        have e1 : (nI i) = smm (fun k => zz U Z nc k) (i + 1) := by first | exact smm_f (zz_f c17) | exact smm_a (zz_t c17) c22 | exact smm_b (zz_t c17) c33 | exact smm_g c22 c33
        have hl := lv_sub (l' := [(2, .int (nI (i + 1))), (1, .int (nI i)), (0, .ref (r 0))]) hl [0, 1, 2] rfl
        rw [e1] at hl
        exact ih ls hlt trivial hl
      · skip
        refine lv_iload_n hx hb dX1_fewest_25 rfl (lv_at hl 0 rfl) ?_
        refine pcS_i (As := [.int (nI i)]) (rest := []) ⟨hx, hb, hml, hown, hts⟩ (g_bitCount l (nI i)) (va_cwS 1 hts gX1_fewest_J6_bitCount_0f7a4 rfl rfl rfl hdJ6_bitCount_0f7a4 ⟨Nat.le_of_ble_eq_true rfl, Nat.le_of_ble_eq_true rfl⟩) rfl hl.1 (Nat.le_of_ble_eq_true rfl) rfl dX1_fewest_26 ⟨Nat.le_of_ble_eq_true rfl, Nat.le_of_ble_eq_true rfl⟩ ?_
        refine lv_iload_n hx hb dX1_fewest_29 rfl (lv_at hl 1 rfl) ?_
        refine pcS_i (As := [.int (smm (fun k => zz U Z nc k) i)]) (rest := [.int (bc (nI i))]) ⟨hx, hb, hml, hown, hts⟩ (g_bitCount l (smm (fun k => zz U Z nc k) i)) (va_cwS 1 hts gX1_fewest_J6_bitCount_0f7a4 rfl rfl rfl hdJ6_bitCount_0f7a4 ⟨Nat.le_of_ble_eq_true rfl, Nat.le_of_ble_eq_true rfl⟩) rfl hl.1 (Nat.le_of_ble_eq_true rfl) rfl dX1_fewest_30 ⟨Nat.le_of_ble_eq_true rfl, Nat.le_of_ble_eq_true rfl⟩ ?_
        refine lv_icmp_ge (tgt := 38) hx hb dX1_fewest_33 (by decide) (fun c33 => ?_) (fun c33 => ?_)
        · skip
          refine lv_iinc (v := nI (i + 1)) (lv' := [(2, .int (nI (i + 1))), (1, .int (smm (fun k => zz U Z nc k) i)), (0, .ref (r 0))]) hx hb dX1_fewest_38 hl (k := 0) rfl (nI_1 _) (by decide) rfl (fun ls hl => ?_)
          refine lv_goto (tgt := 4) hx hb dX1_fewest_41 (by decide) ?_
          have e1 : (smm (fun k => zz U Z nc k) i) = smm (fun k => zz U Z nc k) (i + 1) := by first | exact smm_f (zz_f c17) | exact smm_a (zz_t c17) c22 | exact smm_b (zz_t c17) c33 | exact smm_g c22 c33
          have hl := lv_sub (l' := [(2, .int (nI (i + 1))), (1, .int (smm (fun k => zz U Z nc k) i)), (0, .ref (r 0))]) hl [0, 1, 2] rfl
          rw [e1] at hl
          exact ih ls hlt trivial hl
        · skip
          refine lv_iload_n hx hb dX1_fewest_36 rfl (lv_at hl 0 rfl) ?_
          refine lv_istore_n (lv' := [(1, .int (nI i)), (2, .int (nI i)), (0, .ref (r 0))]) hx hb dX1_fewest_37 rfl hl (by decide) rfl (fun ls hl => ?_)
          refine lv_iinc (v := nI (i + 1)) (lv' := [(2, .int (nI (i + 1))), (1, .int (nI i)), (0, .ref (r 0))]) hx hb dX1_fewest_38 hl (k := 1) rfl (nI_1 _) (by decide) rfl (fun ls hl => ?_)
          refine lv_goto (tgt := 4) hx hb dX1_fewest_41 (by decide) ?_
          have e1 : (nI i) = smm (fun k => zz U Z nc k) (i + 1) := by first | exact smm_f (zz_f c17) | exact smm_a (zz_t c17) c22 | exact smm_b (zz_t c17) c33 | exact smm_g c22 c33
          have hl := lv_sub (l' := [(2, .int (nI (i + 1))), (1, .int (nI i)), (0, .ref (r 0))]) hl [0, 1, 2] rfl
          rw [e1] at hl
          exact ih ls hlt trivial hl
set_option maxHeartbeats 4000000 in
set_option maxRecDepth 100000 in
theorem g_M_inAll (l : Launch) {D : va_G} {cI cZ : ClassId} {r : Nat → Nat} {th : Int32} {tc nc ac : Nat} {ch : Int32} {U : Nat → Int32} {Z : Nat → Bool} {B L F : Nat → Int32} {H : Heap} (hP : va_P D vwCl (wM cI cZ r th tc nc ac ch U Z B L F) H) (htc : tc ≤ 8) (hnc : nc ≤ 40) (hac : ac ≤ 8) : Met l yX1_inAll wsX1_inAll ({ frames := 2, cells := 0, slots := 0, locals := 45 }) (va_Pc [.ref (r 0)] (rd D vwCl (tyA cI cZ) H)) (vp_Si (fun r => r = anf (fun k => zz U Z nc k) (-1) (pw tc))) 0 0 (fun _ => False) := by
  refine Met.ofW (cc := cX1_inAll) (maxL := 3) (ret := (some .int)) (by decide) rfl ?_
  intro p e s m args below meth c s₁ B9 hml hv
  obtain ⟨rfl, hH, hK⟩ := hv
  subst hH
  have hx := B9.exec
  have hb := B9.bytes
  have hr := B9.returns
  have hts := atoms_spec (ws := wsX1_inAll) B9.pre
  have hown : s.vm.findClass RX1 = some m.cls := findClass_of_methodNamed B9.named
  have hlocks := B9.notSynchronized
  have hl := lv_entry ([.ref (r 0)]) (n := 3) (Nat.le_of_ble_eq_true rfl)
  rw [lg_entry_eq]
  generalize (lg_sl ([.ref (r 0)]) ++ List.replicate (3 - (lg_sl ([.ref (r 0)])).length) Slot.unset).toArray = ls at hl ⊢
  have hl : lv_has ls 3 [(0, .ref (r 0))] := hl
  have hpw := pw_in htc
  refine lv_iconst (v := (-1)) hx hb dX1_inAll_0 (by decide) ?_
  refine lv_istore_n (lv' := [(1, .int (-1)), (0, .ref (r 0))]) hx hb dX1_inAll_1 rfl hl (by decide) rfl (fun ls hl => ?_)
  refine lv_iconst (v := 0) hx hb dX1_inAll_2 (by decide) ?_
  refine lv_istore_n (lv' := [(2, .int 0), (1, .int (-1)), (0, .ref (r 0))]) hx hb dX1_inAll_3 rfl hl (by decide) rfl (fun ls hl => ?_)
  refine w_loop (N := pw tc) (T := fun i => [(2, .int (nI i)), (1, .int (anf (fun k => zz U Z nc k) (-1) i)), (0, .ref (r 0))]) (I := fun _ => True) 0 (Nat.zero_le _) trivial (lv_sub hl [0, 1, 2] rfl) (fun i ls hi hI hl ih => ?_)
  have hl : lv_has ls 3 [(2, .int (nI i)), (1, .int (anf (fun k => zz U Z nc k) (-1) i)), (0, .ref (r 0))] := hl
  refine lv_iload_n hx hb dX1_inAll_4 rfl (lv_at hl 0 rfl) ?_
  refine lv_aload_n hx hb dX1_inAll_5 rfl (lv_at hl 2 rfl) ?_
  refine pcV_i (As := []) (rest := [.int (nI i)]) ⟨hx, hb, hml, hown, hts⟩ (g_M_all l hP htc hnc hac) (cwV 0 hts gX1_inAll_X1_all rfl rfl rfl hdX1_all ⟨Nat.le_of_ble_eq_true rfl, Nat.le_of_ble_eq_true rfl⟩) (va_recv hK hP (ci := 1) (q0 := 0) rfl rfl) hK rfl hl.1 (Nat.le_of_ble_eq_true rfl) rfl dX1_inAll_6 ⟨Nat.le_of_ble_eq_true rfl, Nat.le_of_ble_eq_true rfl⟩ ?_
  refine lv_icmp_gt (tgt := 39) hx hb dX1_inAll_9 (by decide) (fun c9 => ?_) (fun c9 => ?_)
  · skip
    have hie : i = pw tc := gd_gt_t htc hi c9
    rw [hie] at hl
    refine lv_iload_n hx hb dX1_inAll_39 rfl (lv_at hl 1 rfl) ?_
    exact W.iret (v := anf (fun k => zz U Z nc k) (-1) (pw tc)) hx hb hr (fun t9 ht9 hW9 => ⟨anf (fun k => zz U Z nc k) (-1) (pw tc), rfl, rfl, ht9⟩) (fun _ h => absurd h List.not_mem_nil) dX1_inAll_40
  · skip
    have hlt : i < pw tc := gd_gt_f htc hi c9
    refine lv_aload_n hx hb dX1_inAll_12 rfl (lv_at hl 2 rfl) ?_
    refine lv_iload_n hx hb dX1_inAll_13 rfl (lv_at hl 0 rfl) ?_
    refine pcV_i (As := [.int (nI i)]) (rest := []) ⟨hx, hb, hml, hown, hts⟩ (g_M_unexplained l hP htc hnc hac (v := nI i)) (cwV 1 hts gX1_inAll_X1_unexplained rfl rfl rfl hdX1_unexplained ⟨Nat.le_of_ble_eq_true rfl, Nat.le_of_ble_eq_true rfl⟩) (va_recv hK hP (ci := 1) (q0 := 0) rfl rfl) hK rfl hl.1 (Nat.le_of_ble_eq_true rfl) rfl dX1_inAll_14 ⟨Nat.le_of_ble_eq_true rfl, Nat.le_of_ble_eq_true rfl⟩ ?_
    refine lv_if_ne (tgt := 33) hx hb dX1_inAll_17 (by decide) (fun c17 => ?_) (fun c17 => ?_)
    · skip
      refine lv_iinc (v := nI (i + 1)) (lv' := [(2, .int (nI (i + 1))), (1, .int (anf (fun k => zz U Z nc k) (-1) i)), (0, .ref (r 0))]) hx hb dX1_inAll_33 hl (k := 0) rfl (nI_1 _) (by decide) rfl (fun ls hl => ?_)
      refine lv_goto (tgt := 4) hx hb dX1_inAll_36 (by decide) ?_
      have e1 : (anf (fun k => zz U Z nc k) (-1) i) = anf (fun k => zz U Z nc k) (-1) (i + 1) := by first | exact anf_f (zz_f c17) | exact anf_m (zz_t c17) c22 | exact anf_t (zz_t c17)
      have hl := lv_sub (l' := [(2, .int (nI (i + 1))), (1, .int (anf (fun k => zz U Z nc k) (-1) i)), (0, .ref (r 0))]) hl [0, 1, 2] rfl
      rw [e1] at hl
      exact ih ls hlt trivial hl
    · skip
      refine lv_iload_n hx hb dX1_inAll_20 rfl (lv_at hl 1 rfl) ?_
      refine lv_iconst (v := (-1)) hx hb dX1_inAll_21 (by decide) ?_
      refine lv_icmp_ne (tgt := 29) hx hb dX1_inAll_22 (by decide) (fun c22 => ?_) (fun c22 => ?_)
      · skip
        refine lv_iload_n hx hb dX1_inAll_29 rfl (lv_at hl 1 rfl) ?_
        refine lv_iload_n hx hb dX1_inAll_30 rfl (lv_at hl 0 rfl) ?_
        refine lv_iand hx hb dX1_inAll_31 ?_
        refine lv_istore_n (lv' := [(1, .int ((anf (fun k => zz U Z nc k) (-1) i) &&& (nI i))), (2, .int (nI i)), (0, .ref (r 0))]) hx hb dX1_inAll_32 rfl hl (by decide) rfl (fun ls hl => ?_)
        refine lv_iinc (v := nI (i + 1)) (lv' := [(2, .int (nI (i + 1))), (1, .int ((anf (fun k => zz U Z nc k) (-1) i) &&& (nI i))), (0, .ref (r 0))]) hx hb dX1_inAll_33 hl (k := 1) rfl (nI_1 _) (by decide) rfl (fun ls hl => ?_)
        refine lv_goto (tgt := 4) hx hb dX1_inAll_36 (by decide) ?_
        have e1 : ((anf (fun k => zz U Z nc k) (-1) i) &&& (nI i)) = anf (fun k => zz U Z nc k) (-1) (i + 1) := by first | exact anf_f (zz_f c17) | exact anf_m (zz_t c17) c22 | exact anf_t (zz_t c17)
        have hl := lv_sub (l' := [(2, .int (nI (i + 1))), (1, .int ((anf (fun k => zz U Z nc k) (-1) i) &&& (nI i))), (0, .ref (r 0))]) hl [0, 1, 2] rfl
        rw [e1] at hl
        exact ih ls hlt trivial hl
      · skip
        refine lv_iload_n hx hb dX1_inAll_25 rfl (lv_at hl 0 rfl) ?_
        refine lv_goto (tgt := 32) hx hb dX1_inAll_26 (by decide) ?_
        refine lv_istore_n (lv' := [(1, .int (nI i)), (2, .int (nI i)), (0, .ref (r 0))]) hx hb dX1_inAll_32 rfl hl (by decide) rfl (fun ls hl => ?_)
        refine lv_iinc (v := nI (i + 1)) (lv' := [(2, .int (nI (i + 1))), (1, .int (nI i)), (0, .ref (r 0))]) hx hb dX1_inAll_33 hl (k := 1) rfl (nI_1 _) (by decide) rfl (fun ls hl => ?_)
        refine lv_goto (tgt := 4) hx hb dX1_inAll_36 (by decide) ?_
        have e1 : (nI i) = anf (fun k => zz U Z nc k) (-1) (i + 1) := by first | exact anf_f (zz_f c17) | exact anf_m (zz_t c17) c22 | exact anf_t (zz_t c17)
        have hl := lv_sub (l' := [(2, .int (nI (i + 1))), (1, .int (nI i)), (0, .ref (r 0))]) hl [0, 1, 2] rfl
        rw [e1] at hl
        exact ih ls hlt trivial hl
set_option maxHeartbeats 4000000 in
set_option maxRecDepth 100000 in
theorem g_M_withThing (l : Launch) {D : va_G} {cI cZ : ClassId} {r : Nat → Nat} {th : Int32} {tc nc ac : Nat} {ch : Int32} {U : Nat → Int32} {Z : Nat → Bool} {B L F : Nat → Int32} {H : Heap} (hP : va_P D vwCl (wM cI cZ r th tc nc ac ch U Z B L F) H) (htc : tc ≤ 8) (hnc : nc ≤ 40) (hac : ac ≤ 8) {t : Nat} : Met l yX1_withThing wsX1_withThing ({ frames := 2, cells := 0, slots := 0, locals := 45 }) (va_Pc [.ref (r 0), .int (nI t)] (rd D vwCl (tyA cI cZ) H)) (vp_Si (fun r => r = nI (ct (fun k => hs (nI k) (nI t) && zz U Z nc k) (pw tc)))) 0 0 (fun _ => False) := by
  refine Met.ofW (cc := cX1_withThing) (maxL := 4) (ret := (some .int)) (by decide) rfl ?_
  intro p e s m args below meth c s₁ B9 hml hv
  obtain ⟨rfl, hH, hK⟩ := hv
  subst hH
  have hx := B9.exec
  have hb := B9.bytes
  have hr := B9.returns
  have hts := atoms_spec (ws := wsX1_withThing) B9.pre
  have hown : s.vm.findClass RX1 = some m.cls := findClass_of_methodNamed B9.named
  have hlocks := B9.notSynchronized
  have hl := lv_entry ([.ref (r 0), .int (nI t)]) (n := 4) (Nat.le_of_ble_eq_true rfl)
  rw [lg_entry_eq]
  generalize (lg_sl ([.ref (r 0), .int (nI t)]) ++ List.replicate (4 - (lg_sl ([.ref (r 0), .int (nI t)])).length) Slot.unset).toArray = ls at hl ⊢
  have hl : lv_has ls 4 [(0, .ref (r 0)), (1, .int (nI t))] := hl
  have hpw := pw_in htc
  refine lv_iconst (v := 0) hx hb dX1_withThing_0 (by decide) ?_
  refine lv_istore_n (lv' := [(2, .int 0), (0, .ref (r 0)), (1, .int (nI t))]) hx hb dX1_withThing_1 rfl hl (by decide) rfl (fun ls hl => ?_)
  refine lv_iconst (v := 0) hx hb dX1_withThing_2 (by decide) ?_
  refine lv_istore_n (lv' := [(3, .int 0), (2, .int 0), (0, .ref (r 0)), (1, .int (nI t))]) hx hb dX1_withThing_3 rfl hl (by decide) rfl (fun ls hl => ?_)
  refine w_loop (N := pw tc) (T := fun i => [(3, .int (nI i)), (2, .int (nI (ct (fun k => hs (nI k) (nI t) && zz U Z nc k) i))), (0, .ref (r 0)), (1, .int (nI t))]) (I := fun _ => True) 0 (Nat.zero_le _) trivial (lv_sub hl [0, 1, 2, 3] rfl) (fun i ls hi hI hl ih => ?_)
  have hl : lv_has ls 4 [(3, .int (nI i)), (2, .int (nI (ct (fun k => hs (nI k) (nI t) && zz U Z nc k) i))), (0, .ref (r 0)), (1, .int (nI t))] := hl
  refine lv_iload_n hx hb dX1_withThing_4 rfl (lv_at hl 0 rfl) ?_
  refine lv_aload_n hx hb dX1_withThing_5 rfl (lv_at hl 2 rfl) ?_
  refine pcV_i (As := []) (rest := [.int (nI i)]) ⟨hx, hb, hml, hown, hts⟩ (g_M_all l hP htc hnc hac) (cwV 0 hts gX1_withThing_X1_all rfl rfl rfl hdX1_all ⟨Nat.le_of_ble_eq_true rfl, Nat.le_of_ble_eq_true rfl⟩) (va_recv hK hP (ci := 1) (q0 := 0) rfl rfl) hK rfl hl.1 (Nat.le_of_ble_eq_true rfl) rfl dX1_withThing_6 ⟨Nat.le_of_ble_eq_true rfl, Nat.le_of_ble_eq_true rfl⟩ ?_
  refine lv_icmp_gt (tgt := 42) hx hb dX1_withThing_9 (by decide) (fun c9 => ?_) (fun c9 => ?_)
  · skip
    have hie : i = pw tc := gd_gt_t htc hi c9
    rw [hie] at hl
    refine lv_iload_n hx hb dX1_withThing_42 rfl (lv_at hl 1 rfl) ?_
    exact W.iret (v := nI (ct (fun k => hs (nI k) (nI t) && zz U Z nc k) (pw tc))) hx hb hr (fun t9 ht9 hW9 => ⟨nI (ct (fun k => hs (nI k) (nI t) && zz U Z nc k) (pw tc)), rfl, rfl, ht9⟩) (fun _ h => absurd h List.not_mem_nil) dX1_withThing_43
  · skip
    have hlt : i < pw tc := gd_gt_f htc hi c9
    refine lv_iload_n hx hb dX1_withThing_12 rfl (lv_at hl 1 rfl) ?_
    refine lv_iload_n hx hb dX1_withThing_13 rfl (lv_at hl 0 rfl) ?_
    refine lv_iload_n hx hb dX1_withThing_14 rfl (lv_at hl 3 rfl) ?_
    refine pcS_i (As := [.int (nI i), .int (nI t)]) (rest := [.int (nI (ct (fun k => hs (nI k) (nI t) && zz U Z nc k) i))]) ⟨hx, hb, hml, hown, hts⟩ (g_M_has l (nI i) (nI t)) (va_cwS 2 hts gX1_withThing_X1_has rfl rfl rfl hdX1_has ⟨Nat.le_of_ble_eq_true rfl, Nat.le_of_ble_eq_true rfl⟩) rfl hl.1 (Nat.le_of_ble_eq_true rfl) rfl dX1_withThing_15 ⟨Nat.le_of_ble_eq_true rfl, Nat.le_of_ble_eq_true rfl⟩ ?_
    refine lv_ifb_eq (tgt := 33) hx hb dX1_withThing_18 (by decide) (fun c18 => ?_) (fun c18 => ?_)
    · skip
      refine lv_iconst (v := 0) hx hb dX1_withThing_33 (by decide) ?_
      refine lv_iadd hx hb dX1_withThing_34 ?_
      refine lv_istore_n (lv' := [(2, .int ((nI (ct (fun k => hs (nI k) (nI t) && zz U Z nc k) i)) + 0)), (3, .int (nI i)), (0, .ref (r 0)), (1, .int (nI t))]) hx hb dX1_withThing_35 rfl hl (by decide) rfl (fun ls hl => ?_)
      refine lv_iinc (v := nI (i + 1)) (lv' := [(3, .int (nI (i + 1))), (2, .int ((nI (ct (fun k => hs (nI k) (nI t) && zz U Z nc k) i)) + 0)), (0, .ref (r 0)), (1, .int (nI t))]) hx hb dX1_withThing_36 hl (k := 1) rfl (nI_1 _) (by decide) rfl (fun ls hl => ?_)
      refine lv_goto (tgt := 4) hx hb dX1_withThing_39 (by decide) ?_
      have e2 : ((nI (ct (fun k => hs (nI k) (nI t) && zz U Z nc k) i)) + 0) = nI (ct (fun k => hs (nI k) (nI t) && zz U Z nc k) (i + 1)) := by first | exact ct_t1 (by simp [zz_t, zz_f, c9, c18]) | exact ct_t (by simp [zz_t, zz_f, c9, c18]) | exact ct_f (by simp [zz_t, zz_f, c9, c18]) | exact ct_f0 (by simp [zz_t, zz_f, c9, c18])
      have hl := lv_sub (l' := [(3, .int (nI (i + 1))), (2, .int ((nI (ct (fun k => hs (nI k) (nI t) && zz U Z nc k) i)) + 0)), (0, .ref (r 0)), (1, .int (nI t))]) hl [0, 1, 2, 3] rfl
      rw [e2] at hl
      exact ih ls hlt trivial hl
    · skip
      refine lv_aload_n hx hb dX1_withThing_21 rfl (lv_at hl 2 rfl) ?_
      refine lv_iload_n hx hb dX1_withThing_22 rfl (lv_at hl 0 rfl) ?_
      refine pcV_i (As := [.int (nI i)]) (rest := [.int (nI (ct (fun k => hs (nI k) (nI t) && zz U Z nc k) i))]) ⟨hx, hb, hml, hown, hts⟩ (g_M_unexplained l hP htc hnc hac (v := nI i)) (cwV 1 hts gX1_withThing_X1_unexplained rfl rfl rfl hdX1_unexplained ⟨Nat.le_of_ble_eq_true rfl, Nat.le_of_ble_eq_true rfl⟩) (va_recv hK hP (ci := 1) (q0 := 0) rfl rfl) hK rfl hl.1 (Nat.le_of_ble_eq_true rfl) rfl dX1_withThing_23 ⟨Nat.le_of_ble_eq_true rfl, Nat.le_of_ble_eq_true rfl⟩ ?_
      refine lv_if_ne (tgt := 33) hx hb dX1_withThing_26 (by decide) (fun c26 => ?_) (fun c26 => ?_)
      · skip
        refine lv_iconst (v := 0) hx hb dX1_withThing_33 (by decide) ?_
        refine lv_iadd hx hb dX1_withThing_34 ?_
        refine lv_istore_n (lv' := [(2, .int ((nI (ct (fun k => hs (nI k) (nI t) && zz U Z nc k) i)) + 0)), (3, .int (nI i)), (0, .ref (r 0)), (1, .int (nI t))]) hx hb dX1_withThing_35 rfl hl (by decide) rfl (fun ls hl => ?_)
        refine lv_iinc (v := nI (i + 1)) (lv' := [(3, .int (nI (i + 1))), (2, .int ((nI (ct (fun k => hs (nI k) (nI t) && zz U Z nc k) i)) + 0)), (0, .ref (r 0)), (1, .int (nI t))]) hx hb dX1_withThing_36 hl (k := 1) rfl (nI_1 _) (by decide) rfl (fun ls hl => ?_)
        refine lv_goto (tgt := 4) hx hb dX1_withThing_39 (by decide) ?_
        have e2 : ((nI (ct (fun k => hs (nI k) (nI t) && zz U Z nc k) i)) + 0) = nI (ct (fun k => hs (nI k) (nI t) && zz U Z nc k) (i + 1)) := by first | exact ct_t1 (by simp [zz_t, zz_f, c9, c18, c26]) | exact ct_t (by simp [zz_t, zz_f, c9, c18, c26]) | exact ct_f (by simp [zz_t, zz_f, c9, c18, c26]) | exact ct_f0 (by simp [zz_t, zz_f, c9, c18, c26])
        have hl := lv_sub (l' := [(3, .int (nI (i + 1))), (2, .int ((nI (ct (fun k => hs (nI k) (nI t) && zz U Z nc k) i)) + 0)), (0, .ref (r 0)), (1, .int (nI t))]) hl [0, 1, 2, 3] rfl
        rw [e2] at hl
        exact ih ls hlt trivial hl
      · skip
        refine lv_iconst (v := 1) hx hb dX1_withThing_29 (by decide) ?_
        refine lv_goto (tgt := 34) hx hb dX1_withThing_30 (by decide) ?_
        refine lv_iadd hx hb dX1_withThing_34 ?_
        refine lv_istore_n (lv' := [(2, .int ((nI (ct (fun k => hs (nI k) (nI t) && zz U Z nc k) i)) + 1)), (3, .int (nI i)), (0, .ref (r 0)), (1, .int (nI t))]) hx hb dX1_withThing_35 rfl hl (by decide) rfl (fun ls hl => ?_)
        refine lv_iinc (v := nI (i + 1)) (lv' := [(3, .int (nI (i + 1))), (2, .int ((nI (ct (fun k => hs (nI k) (nI t) && zz U Z nc k) i)) + 1)), (0, .ref (r 0)), (1, .int (nI t))]) hx hb dX1_withThing_36 hl (k := 1) rfl (nI_1 _) (by decide) rfl (fun ls hl => ?_)
        refine lv_goto (tgt := 4) hx hb dX1_withThing_39 (by decide) ?_
        have e2 : ((nI (ct (fun k => hs (nI k) (nI t) && zz U Z nc k) i)) + 1) = nI (ct (fun k => hs (nI k) (nI t) && zz U Z nc k) (i + 1)) := by first | exact ct_t1 (by simp [zz_t, zz_f, c9, c18, c26]) | exact ct_t (by simp [zz_t, zz_f, c9, c18, c26]) | exact ct_f (by simp [zz_t, zz_f, c9, c18, c26]) | exact ct_f0 (by simp [zz_t, zz_f, c9, c18, c26])
        have hl := lv_sub (l' := [(3, .int (nI (i + 1))), (2, .int ((nI (ct (fun k => hs (nI k) (nI t) && zz U Z nc k) i)) + 1)), (0, .ref (r 0)), (1, .int (nI t))]) hl [0, 1, 2, 3] rfl
        rw [e2] at hl
        exact ih ls hlt trivial hl
set_option maxHeartbeats 4000000 in
set_option maxRecDepth 100000 in
theorem g_M_meeting (l : Launch) {D : va_G} {cI cZ : ClassId} {r : Nat → Nat} {th : Int32} {tc nc ac : Nat} {ch : Int32} {U : Nat → Int32} {Z : Nat → Bool} {B L F : Nat → Int32} {H : Heap} (hP : va_P D vwCl (wM cI cZ r th tc nc ac ch U Z B L F) H) (htc : tc ≤ 8) (hnc : nc ≤ 40) (hac : ac ≤ 8) {u : Int32} : Met l yX1_meeting wsX1_meeting ({ frames := 2, cells := 0, slots := 0, locals := 45 }) (va_Pc [.ref (r 0), .int u] (rd D vwCl (tyA cI cZ) H)) (vp_Si (fun r => r = nI (mt U Z nc (pw tc) u))) 0 0 (fun _ => False) := by
  refine Met.ofW (cc := cX1_meeting) (maxL := 4) (ret := (some .int)) (by decide) rfl ?_
  intro p e s m args below meth c s₁ B9 hml hv
  obtain ⟨rfl, hH, hK⟩ := hv
  subst hH
  have hx := B9.exec
  have hb := B9.bytes
  have hr := B9.returns
  have hts := atoms_spec (ws := wsX1_meeting) B9.pre
  have hown : s.vm.findClass RX1 = some m.cls := findClass_of_methodNamed B9.named
  have hlocks := B9.notSynchronized
  have hl := lv_entry ([.ref (r 0), .int u]) (n := 4) (Nat.le_of_ble_eq_true rfl)
  rw [lg_entry_eq]
  generalize (lg_sl ([.ref (r 0), .int u]) ++ List.replicate (4 - (lg_sl ([.ref (r 0), .int u])).length) Slot.unset).toArray = ls at hl ⊢
  have hl : lv_has ls 4 [(0, .ref (r 0)), (1, .int u)] := hl
  have hpw := pw_in htc
  refine lv_iconst (v := 0) hx hb dX1_meeting_0 (by decide) ?_
  refine lv_istore_n (lv' := [(2, .int 0), (0, .ref (r 0)), (1, .int u)]) hx hb dX1_meeting_1 rfl hl (by decide) rfl (fun ls hl => ?_)
  refine lv_iconst (v := 0) hx hb dX1_meeting_2 (by decide) ?_
  refine lv_istore_n (lv' := [(3, .int 0), (2, .int 0), (0, .ref (r 0)), (1, .int u)]) hx hb dX1_meeting_3 rfl hl (by decide) rfl (fun ls hl => ?_)
  refine w_loop (N := pw tc) (T := fun i => [(3, .int (nI i)), (2, .int (nI (ct (fun k => decide (¬ nI k &&& u = 0) && zz U Z nc k) i))), (0, .ref (r 0)), (1, .int u)]) (I := fun _ => True) 0 (Nat.zero_le _) trivial (lv_sub hl [0, 1, 2, 3] rfl) (fun i ls hi hI hl ih => ?_)
  have hl : lv_has ls 4 [(3, .int (nI i)), (2, .int (nI (ct (fun k => decide (¬ nI k &&& u = 0) && zz U Z nc k) i))), (0, .ref (r 0)), (1, .int u)] := hl
  refine lv_iload_n hx hb dX1_meeting_4 rfl (lv_at hl 0 rfl) ?_
  refine lv_aload_n hx hb dX1_meeting_5 rfl (lv_at hl 2 rfl) ?_
  refine pcV_i (As := []) (rest := [.int (nI i)]) ⟨hx, hb, hml, hown, hts⟩ (g_M_all l hP htc hnc hac) (cwV 0 hts gX1_meeting_X1_all rfl rfl rfl hdX1_all ⟨Nat.le_of_ble_eq_true rfl, Nat.le_of_ble_eq_true rfl⟩) (va_recv hK hP (ci := 1) (q0 := 0) rfl rfl) hK rfl hl.1 (Nat.le_of_ble_eq_true rfl) rfl dX1_meeting_6 ⟨Nat.le_of_ble_eq_true rfl, Nat.le_of_ble_eq_true rfl⟩ ?_
  refine lv_icmp_gt (tgt := 40) hx hb dX1_meeting_9 (by decide) (fun c9 => ?_) (fun c9 => ?_)
  · skip
    have hie : i = pw tc := gd_gt_t htc hi c9
    rw [hie] at hl
    refine lv_iload_n hx hb dX1_meeting_40 rfl (lv_at hl 1 rfl) ?_
    exact W.iret (v := nI (ct (fun k => decide (¬ nI k &&& u = 0) && zz U Z nc k) (pw tc))) hx hb hr (fun t9 ht9 hW9 => ⟨nI (ct (fun k => decide (¬ nI k &&& u = 0) && zz U Z nc k) (pw tc)), rfl, rfl, ht9⟩) (fun _ h => absurd h List.not_mem_nil) dX1_meeting_41
  · skip
    have hlt : i < pw tc := gd_gt_f htc hi c9
    refine lv_iload_n hx hb dX1_meeting_12 rfl (lv_at hl 1 rfl) ?_
    refine lv_iload_n hx hb dX1_meeting_13 rfl (lv_at hl 0 rfl) ?_
    refine lv_iload_n hx hb dX1_meeting_14 rfl (lv_at hl 3 rfl) ?_
    refine lv_iand hx hb dX1_meeting_15 ?_
    refine lv_if_eq (tgt := 31) hx hb dX1_meeting_16 (by decide) (fun c16 => ?_) (fun c16 => ?_)
    · skip
      refine lv_iconst (v := 0) hx hb dX1_meeting_31 (by decide) ?_
      refine lv_iadd hx hb dX1_meeting_32 ?_
      refine lv_istore_n (lv' := [(2, .int ((nI (ct (fun k => decide (¬ nI k &&& u = 0) && zz U Z nc k) i)) + 0)), (3, .int (nI i)), (0, .ref (r 0)), (1, .int u)]) hx hb dX1_meeting_33 rfl hl (by decide) rfl (fun ls hl => ?_)
      refine lv_iinc (v := nI (i + 1)) (lv' := [(3, .int (nI (i + 1))), (2, .int ((nI (ct (fun k => decide (¬ nI k &&& u = 0) && zz U Z nc k) i)) + 0)), (0, .ref (r 0)), (1, .int u)]) hx hb dX1_meeting_34 hl (k := 1) rfl (nI_1 _) (by decide) rfl (fun ls hl => ?_)
      refine lv_goto (tgt := 4) hx hb dX1_meeting_37 (by decide) ?_
      have e2 : ((nI (ct (fun k => decide (¬ nI k &&& u = 0) && zz U Z nc k) i)) + 0) = nI (ct (fun k => decide (¬ nI k &&& u = 0) && zz U Z nc k) (i + 1)) := by first | exact ct_t1 (by simp [zz_t, zz_f, c9, c16]) | exact ct_t (by simp [zz_t, zz_f, c9, c16]) | exact ct_f (by simp [zz_t, zz_f, c9, c16]) | exact ct_f0 (by simp [zz_t, zz_f, c9, c16])
      have hl := lv_sub (l' := [(3, .int (nI (i + 1))), (2, .int ((nI (ct (fun k => decide (¬ nI k &&& u = 0) && zz U Z nc k) i)) + 0)), (0, .ref (r 0)), (1, .int u)]) hl [0, 1, 2, 3] rfl
      rw [e2] at hl
      exact ih ls hlt trivial hl
    · skip
      refine lv_aload_n hx hb dX1_meeting_19 rfl (lv_at hl 2 rfl) ?_
      refine lv_iload_n hx hb dX1_meeting_20 rfl (lv_at hl 0 rfl) ?_
      refine pcV_i (As := [.int (nI i)]) (rest := [.int (nI (ct (fun k => decide (¬ nI k &&& u = 0) && zz U Z nc k) i))]) ⟨hx, hb, hml, hown, hts⟩ (g_M_unexplained l hP htc hnc hac (v := nI i)) (cwV 1 hts gX1_meeting_X1_unexplained rfl rfl rfl hdX1_unexplained ⟨Nat.le_of_ble_eq_true rfl, Nat.le_of_ble_eq_true rfl⟩) (va_recv hK hP (ci := 1) (q0 := 0) rfl rfl) hK rfl hl.1 (Nat.le_of_ble_eq_true rfl) rfl dX1_meeting_21 ⟨Nat.le_of_ble_eq_true rfl, Nat.le_of_ble_eq_true rfl⟩ ?_
      refine lv_if_ne (tgt := 31) hx hb dX1_meeting_24 (by decide) (fun c24 => ?_) (fun c24 => ?_)
      · skip
        refine lv_iconst (v := 0) hx hb dX1_meeting_31 (by decide) ?_
        refine lv_iadd hx hb dX1_meeting_32 ?_
        refine lv_istore_n (lv' := [(2, .int ((nI (ct (fun k => decide (¬ nI k &&& u = 0) && zz U Z nc k) i)) + 0)), (3, .int (nI i)), (0, .ref (r 0)), (1, .int u)]) hx hb dX1_meeting_33 rfl hl (by decide) rfl (fun ls hl => ?_)
        refine lv_iinc (v := nI (i + 1)) (lv' := [(3, .int (nI (i + 1))), (2, .int ((nI (ct (fun k => decide (¬ nI k &&& u = 0) && zz U Z nc k) i)) + 0)), (0, .ref (r 0)), (1, .int u)]) hx hb dX1_meeting_34 hl (k := 1) rfl (nI_1 _) (by decide) rfl (fun ls hl => ?_)
        refine lv_goto (tgt := 4) hx hb dX1_meeting_37 (by decide) ?_
        have e2 : ((nI (ct (fun k => decide (¬ nI k &&& u = 0) && zz U Z nc k) i)) + 0) = nI (ct (fun k => decide (¬ nI k &&& u = 0) && zz U Z nc k) (i + 1)) := by first | exact ct_t1 (by simp [zz_t, zz_f, c9, c16, c24]) | exact ct_t (by simp [zz_t, zz_f, c9, c16, c24]) | exact ct_f (by simp [zz_t, zz_f, c9, c16, c24]) | exact ct_f0 (by simp [zz_t, zz_f, c9, c16, c24])
        have hl := lv_sub (l' := [(3, .int (nI (i + 1))), (2, .int ((nI (ct (fun k => decide (¬ nI k &&& u = 0) && zz U Z nc k) i)) + 0)), (0, .ref (r 0)), (1, .int u)]) hl [0, 1, 2, 3] rfl
        rw [e2] at hl
        exact ih ls hlt trivial hl
      · skip
        refine lv_iconst (v := 1) hx hb dX1_meeting_27 (by decide) ?_
        refine lv_goto (tgt := 32) hx hb dX1_meeting_28 (by decide) ?_
        refine lv_iadd hx hb dX1_meeting_32 ?_
        refine lv_istore_n (lv' := [(2, .int ((nI (ct (fun k => decide (¬ nI k &&& u = 0) && zz U Z nc k) i)) + 1)), (3, .int (nI i)), (0, .ref (r 0)), (1, .int u)]) hx hb dX1_meeting_33 rfl hl (by decide) rfl (fun ls hl => ?_)
        refine lv_iinc (v := nI (i + 1)) (lv' := [(3, .int (nI (i + 1))), (2, .int ((nI (ct (fun k => decide (¬ nI k &&& u = 0) && zz U Z nc k) i)) + 1)), (0, .ref (r 0)), (1, .int u)]) hx hb dX1_meeting_34 hl (k := 1) rfl (nI_1 _) (by decide) rfl (fun ls hl => ?_)
        refine lv_goto (tgt := 4) hx hb dX1_meeting_37 (by decide) ?_
        have e2 : ((nI (ct (fun k => decide (¬ nI k &&& u = 0) && zz U Z nc k) i)) + 1) = nI (ct (fun k => decide (¬ nI k &&& u = 0) && zz U Z nc k) (i + 1)) := by first | exact ct_t1 (by simp [zz_t, zz_f, c9, c16, c24]) | exact ct_t (by simp [zz_t, zz_f, c9, c16, c24]) | exact ct_f (by simp [zz_t, zz_f, c9, c16, c24]) | exact ct_f0 (by simp [zz_t, zz_f, c9, c16, c24])
        have hl := lv_sub (l' := [(3, .int (nI (i + 1))), (2, .int ((nI (ct (fun k => decide (¬ nI k &&& u = 0) && zz U Z nc k) i)) + 1)), (0, .ref (r 0)), (1, .int u)]) hl [0, 1, 2, 3] rfl
        rw [e2] at hl
        exact ih ls hlt trivial hl
