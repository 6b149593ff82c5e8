/-! SmudgedStar: contracts of its methods -/
set_option maxHeartbeats 4000000 in
set_option maxRecDepth 100000 in
theorem g_X_setOf (l : Launch) (t : Int32) : Met l yX0_setOf wsX0_setOf ({ frames := 0, cells := 0, slots := 0, locals := 0 }) (va_Pc [.int t] (fun _ => True)) (vp_Si (fun r => r = (1 : Int32) <<< (t &&& 31))) 0 0 (fun _ => False) := by
  refine Met.ofW (cc := cX0_setOf) (maxL := 1) (ret := (some .int)) (by decide) rfl ?_
  intro p e s m args below meth c s₁ B9 hml hv
  obtain ⟨rfl, -⟩ := hv
  have hx := B9.exec
  have hb := B9.bytes
  have hr := B9.returns
  have hts := atoms_spec (ws := wsX0_setOf) B9.pre
  have hown : s.vm.findClass RX0 = some m.cls := findClass_of_methodNamed B9.named
  have hlocks := B9.notSynchronized
  have hl := lv_entry ([.int t]) (n := 1) (Nat.le_of_ble_eq_true rfl)
  rw [lg_entry_eq]
  generalize (lg_sl ([.int t]) ++ List.replicate (1 - (lg_sl ([.int t])).length) Slot.unset).toArray = ls at hl ⊢
  have hl : lv_has ls 1 [(0, .int t)] := hl
  refine lv_iconst (v := 1) hx hb dX0_setOf_0 (by decide) ?_
  refine lv_iload_n hx hb dX0_setOf_1 rfl (lv_at hl 0 rfl) ?_
  refine lv_ishl hx hb dX0_setOf_2 ?_
  exact W.iret (v := (1 : Int32) <<< (t &&& 31)) hx hb hr (fun t9 ht9 hW9 => ⟨(1 : Int32) <<< (t &&& 31), rfl, rfl, ht9⟩) (fun _ h => absurd h List.not_mem_nil) dX0_setOf_3
set_option maxHeartbeats 4000000 in
set_option maxRecDepth 100000 in
theorem g_X_holds (l : Launch) (v t : Int32) : Met l yX0_holds wsX0_holds ({ frames := 1, cells := 0, slots := 0, locals := 20 }) (va_Pc [.int v, .int t] (fun _ => True)) (vp_Si (fun r => r = bI (ho v t))) 0 0 (fun _ => False) := by
  refine Met.ofW (cc := cX0_holds) (maxL := 2) (ret := (some .boolean)) (by decide) rfl ?_
  intro p e s m args below meth c s₁ B9 hml hv
  obtain ⟨rfl, -⟩ := hv
  have hx := B9.exec
  have hb := B9.bytes
  have hr := B9.returns
  have hts := atoms_spec (ws := wsX0_holds) B9.pre
  have hown : s.vm.findClass RX0 = some m.cls := findClass_of_methodNamed B9.named
  have hlocks := B9.notSynchronized
  have hl := lv_entry ([.int v, .int t]) (n := 2) (Nat.le_of_ble_eq_true rfl)
  rw [lg_entry_eq]
  generalize (lg_sl ([.int v, .int t]) ++ List.replicate (2 - (lg_sl ([.int v, .int t])).length) Slot.unset).toArray = ls at hl ⊢
  have hl : lv_has ls 2 [(0, .int v), (1, .int t)] := hl
  refine lv_iload_n hx hb dX0_holds_0 rfl (lv_at hl 0 rfl) ?_
  refine lv_iload_n hx hb dX0_holds_1 rfl (lv_at hl 1 rfl) ?_
  refine pcS_i (As := [.int t]) (rest := [.int v]) ⟨hx, hb, hml, hown, hts⟩ (g_X_setOf l t) (va_cwS 1 hts gX0_holds_X0_setOf rfl rfl rfl hdX0_setOf ⟨Nat.le_of_ble_eq_true rfl, Nat.le_of_ble_eq_true rfl⟩) rfl hl.1 (Nat.le_of_ble_eq_true rfl) rfl dX0_holds_2 ⟨Nat.le_of_ble_eq_true rfl, Nat.le_of_ble_eq_true rfl⟩ ?_
  refine lv_iand hx hb dX0_holds_5 ?_
  refine lv_if_eq (tgt := 13) hx hb dX0_holds_6 (by decide) (fun c6 => ?_) (fun c6 => ?_)
  · skip
    refine lv_iconst (v := 0) hx hb dX0_holds_13 (by decide) ?_
    exact W.zret (v := 0) (ty := .boolean) hx hb hr (rfl) (fun t9 ht9 hW9 => ⟨0, rfl, (ho_f c6), ht9⟩) (fun _ h => absurd h List.not_mem_nil) dX0_holds_14
  · skip
    refine lv_iconst (v := 1) hx hb dX0_holds_9 (by decide) ?_
    refine lv_goto (tgt := 14) hx hb dX0_holds_10 (by decide) ?_
    exact W.zret (v := 1) (ty := .boolean) hx hb hr (rfl) (fun t9 ht9 hW9 => ⟨1, rfl, (ho_t c6), ht9⟩) (fun _ h => absurd h List.not_mem_nil) dX0_holds_14
set_option maxHeartbeats 4000000 in
set_option maxRecDepth 100000 in
theorem g_X_explains (l : Launch) (v u : Int32) (z : Bool) : Met l yX0_explains wsX0_explains ({ frames := 0, cells := 0, slots := 0, locals := 0 }) (va_Pc [.int v, .int u, .int (bI z)] (fun _ => True)) (vp_Si (fun r => r = bI (sx v u z))) 0 0 (fun _ => False) := by
  refine Met.ofW (cc := cX0_explains) (maxL := 3) (ret := (some .boolean)) (by decide) rfl ?_
  intro p e s m args below meth c s₁ B9 hml hv
  obtain ⟨rfl, -⟩ := hv
  have hx := B9.exec
  have hb := B9.bytes
  have hr := B9.returns
  have hts := atoms_spec (ws := wsX0_explains) B9.pre
  have hown : s.vm.findClass RX0 = some m.cls := findClass_of_methodNamed B9.named
  have hlocks := B9.notSynchronized
  have hl := lv_entry ([.int v, .int u, .int (bI z)]) (n := 3) (Nat.le_of_ble_eq_true rfl)
  rw [lg_entry_eq]
  generalize (lg_sl ([.int v, .int u, .int (bI z)]) ++ List.replicate (3 - (lg_sl ([.int v, .int u, .int (bI z)])).length) Slot.unset).toArray = ls at hl ⊢
  have hl : lv_has ls 3 [(0, .int v), (1, .int u), (2, .int (bI z))] := hl
  refine lv_iload_n hx hb dX0_explains_0 rfl (lv_at hl 0 rfl) ?_
  refine lv_iload_n hx hb dX0_explains_1 rfl (lv_at hl 1 rfl) ?_
  refine lv_iand hx hb dX0_explains_2 ?_
  refine lv_if_eq (tgt := 10) hx hb dX0_explains_3 (by decide) (fun c3 => ?_) (fun c3 => ?_)
  · skip
    refine lv_iconst (v := 0) hx hb dX0_explains_10 (by decide) ?_
    refine lv_iload_n hx hb dX0_explains_11 rfl (lv_at hl 2 rfl) ?_
    refine lv_icmp_ne (tgt := 19) hx hb dX0_explains_12 (by decide) (fun c12 => ?_) (fun c12 => ?_)
    · skip
      refine lv_iconst (v := 0) hx hb dX0_explains_19 (by decide) ?_
      exact W.zret (v := 0) (ty := .boolean) hx hb hr (rfl) (fun t9 ht9 hW9 => ⟨0, rfl, (by first | exact sx_1 c3 c12 | exact sx_0 c3 c12 | exact sx_2 c3 c12 | exact sx_3 c3 c12), ht9⟩) (fun _ h => absurd h List.not_mem_nil) dX0_explains_20
    · skip
      refine lv_iconst (v := 1) hx hb dX0_explains_15 (by decide) ?_
      refine lv_goto (tgt := 20) hx hb dX0_explains_16 (by decide) ?_
      exact W.zret (v := 1) (ty := .boolean) hx hb hr (rfl) (fun t9 ht9 hW9 => ⟨1, rfl, (by first | exact sx_1 c3 c12 | exact sx_0 c3 c12 | exact sx_2 c3 c12 | exact sx_3 c3 c12), ht9⟩) (fun _ h => absurd h List.not_mem_nil) dX0_explains_20
  · skip
    refine lv_iconst (v := 1) hx hb dX0_explains_6 (by decide) ?_
    refine lv_goto (tgt := 11) hx hb dX0_explains_7 (by decide) ?_
    refine lv_iload_n hx hb dX0_explains_11 rfl (lv_at hl 2 rfl) ?_
    refine lv_icmp_ne (tgt := 19) hx hb dX0_explains_12 (by decide) (fun c12 => ?_) (fun c12 => ?_)
    · skip
      refine lv_iconst (v := 0) hx hb dX0_explains_19 (by decide) ?_
      exact W.zret (v := 0) (ty := .boolean) hx hb hr (rfl) (fun t9 ht9 hW9 => ⟨0, rfl, (by first | exact sx_1 c3 c12 | exact sx_0 c3 c12 | exact sx_2 c3 c12 | exact sx_3 c3 c12), ht9⟩) (fun _ h => absurd h List.not_mem_nil) dX0_explains_20
    · skip
      refine lv_iconst (v := 1) hx hb dX0_explains_15 (by decide) ?_
      refine lv_goto (tgt := 20) hx hb dX0_explains_16 (by decide) ?_
      exact W.zret (v := 1) (ty := .boolean) hx hb hr (rfl) (fun t9 ht9 hW9 => ⟨1, rfl, (by first | exact sx_1 c3 c12 | exact sx_0 c3 c12 | exact sx_2 c3 c12 | exact sx_3 c3 c12), ht9⟩) (fun _ h => absurd h List.not_mem_nil) dX0_explains_20
set_option maxHeartbeats 4000000 in
set_option maxRecDepth 100000 in
theorem g_X_mixed (l : Launch) (d x : Int64) : Met l yX0_mixed wsX0_mixed ({ frames := 0, cells := 0, slots := 0, locals := 0 }) (va_Pc [.long d, .long x] (fun _ => True)) (vp_Sl (fun r => r = mix d x)) 0 0 (fun _ => False) := by
  refine Met.ofW (cc := cX0_mixed) (maxL := 4) (ret := (some .long)) (by decide) rfl ?_
  intro p e s m args below meth c s₁ B9 hml hv
  obtain ⟨rfl, -⟩ := hv
  have hx := B9.exec
  have hb := B9.bytes
  have hr := B9.returns
  have hts := atoms_spec (ws := wsX0_mixed) B9.pre
  have hown : s.vm.findClass RX0 = some m.cls := findClass_of_methodNamed B9.named
  have hlocks := B9.notSynchronized
  have hl := lv_entry ([.long d, .long x]) (n := 4) (Nat.le_of_ble_eq_true rfl)
  rw [lg_entry_eq]
  generalize (lg_sl ([.long d, .long x]) ++ List.replicate (4 - (lg_sl ([.long d, .long x])).length) Slot.unset).toArray = ls at hl ⊢
  have hl : lv_has ls 4 [(0, .long d), (2, .long x)] := hl
  refine lv_lload_n hx hb dX0_mixed_0 rfl (lv_at hl 0 rfl) ?_
  refine lv_ldc2 hx hb hown (hts (.constantLong RX0 202 (31)) (List.mem_of_getElem? (i := 1) rfl)) dX0_mixed_1 ?_
  refine lv_lmul hx hb dX0_mixed_4 ?_
  refine lv_lload_n hx hb dX0_mixed_5 rfl (lv_at hl 1 rfl) ?_
  refine lv_ladd hx hb dX0_mixed_6 ?_
  exact W.lret (v := (d * 31) + x) hx hb hr (fun t9 ht9 hW9 => ⟨(d * 31) + x, rfl, rfl, ht9⟩) (fun _ h => absurd h List.not_mem_nil) dX0_mixed_7
set_option maxHeartbeats 4000000 in
set_option maxRecDepth 100000 in
theorem g_X_oneIf (l : Launch) (z : Bool) : Met l yX0_oneIf wsX0_oneIf ({ frames := 0, cells := 0, slots := 0, locals := 0 }) (va_Pc [.int (bI z)] (fun _ => True)) (vp_Sl (fun r => r = (bI z).toInt64)) 0 0 (fun _ => False) := by
  refine Met.ofW (cc := cX0_oneIf) (maxL := 1) (ret := (some .long)) (by decide) rfl ?_
  intro p e s m args below meth c s₁ B9 hml hv
  obtain ⟨rfl, -⟩ := hv
  have hx := B9.exec
  have hb := B9.bytes
  have hr := B9.returns
  have hts := atoms_spec (ws := wsX0_oneIf) B9.pre
  have hown : s.vm.findClass RX0 = some m.cls := findClass_of_methodNamed B9.named
  have hlocks := B9.notSynchronized
  have hl := lv_entry ([.int (bI z)]) (n := 1) (Nat.le_of_ble_eq_true rfl)
  rw [lg_entry_eq]
  generalize (lg_sl ([.int (bI z)]) ++ List.replicate (1 - (lg_sl ([.int (bI z)])).length) Slot.unset).toArray = ls at hl ⊢
  have hl : lv_has ls 1 [(0, .int (bI z))] := hl
  refine lv_iload_n hx hb dX0_oneIf_0 rfl (lv_at hl 0 rfl) ?_
  refine lv_ifb_eq (tgt := 8) hx hb dX0_oneIf_1 (by decide) (fun c1 => ?_) (fun c1 => ?_)
  · skip
    refine lv_lconst (v := 0) hx hb dX0_oneIf_8 (by decide) ?_
    exact W.lret (v := 0) hx hb hr (fun t9 ht9 hW9 => ⟨0, rfl, (by rw [c1]; rfl), ht9⟩) (fun _ h => absurd h List.not_mem_nil) dX0_oneIf_9
  · skip
    refine lv_lconst (v := 1) hx hb dX0_oneIf_4 (by decide) ?_
    refine lv_goto (tgt := 9) hx hb dX0_oneIf_5 (by decide) ?_
    exact W.lret (v := 1) hx hb hr (fun t9 ht9 hW9 => ⟨1, rfl, (by rw [c1]; rfl), ht9⟩) (fun _ h => absurd h List.not_mem_nil) dX0_oneIf_9
set_option maxHeartbeats 4000000 in
set_option maxRecDepth 100000 in
theorem g_bitCount (l : Launch) (v : Int32) : Met l yJ6_bitCount_0f7a4 wsJ6_bitCount_0f7a4 ({ frames := 0, cells := 0, slots := 0, locals := 0 }) (va_Pc [.int v] (fun _ => True)) (vp_Si (fun r => r = bc v)) 0 0 (fun _ => False) := by
  refine Met.ofW (cc := cJ6_bitCount_0f7a4) (maxL := 1) (ret := (some .int)) (by decide) rfl ?_
  intro p e s m args below meth c s₁ B9 hml hv
  obtain ⟨rfl, -⟩ := hv
  have hx := B9.exec
  have hb := B9.bytes
  have hr := B9.returns
  have hts := atoms_spec (ws := wsJ6_bitCount_0f7a4) B9.pre
  have hown : s.vm.findClass RJ6 = some m.cls := findClass_of_methodNamed B9.named
  have hlocks := B9.notSynchronized
  have hl := lv_entry ([.int v]) (n := 1) (Nat.le_of_ble_eq_true rfl)
  rw [lg_entry_eq]
  generalize (lg_sl ([.int v]) ++ List.replicate (1 - (lg_sl ([.int v])).length) Slot.unset).toArray = ls at hl ⊢
  have hl : lv_has ls 1 [(0, .int v)] := hl
  refine lv_iload_n hx hb dJ6_bitCount_0f7a4_0 rfl (lv_at hl 0 rfl) ?_
  refine lv_iload_n hx hb dJ6_bitCount_0f7a4_1 rfl (lv_at hl 0 rfl) ?_
  refine lv_iconst (v := 1) hx hb dJ6_bitCount_0f7a4_2 (by decide) ?_
  refine lv_iushr (v := (v.toUInt32 >>> ((1 : Int32).toUInt32 &&& Int32.toUInt32 31)).toInt32) hx hb dJ6_bitCount_0f7a4_3 rfl ?_
  refine lv_ldcw hx hb hown (hts (.constant RJ6 265 (1431655765)) (List.mem_of_getElem? (i := 1) rfl)) dJ6_bitCount_0f7a4_4 ?_
  refine lv_iand hx hb dJ6_bitCount_0f7a4_7 ?_
  refine lv_isub hx hb dJ6_bitCount_0f7a4_8 ?_
  refine lv_cst (y := bc1 v) rfl ?_
  refine lv_istore_n (lv' := [(0, .int (bc1 v))]) hx hb dJ6_bitCount_0f7a4_9 rfl hl (by decide) rfl (fun ls hl => ?_)
  refine lv_iload_n hx hb dJ6_bitCount_0f7a4_10 rfl (lv_at hl 0 rfl) ?_
  refine lv_ldcw hx hb hown (hts (.constant RJ6 266 (858993459)) (List.mem_of_getElem? (i := 2) rfl)) dJ6_bitCount_0f7a4_11 ?_
  refine lv_iand hx hb dJ6_bitCount_0f7a4_14 ?_
  refine lv_iload_n hx hb dJ6_bitCount_0f7a4_15 rfl (lv_at hl 0 rfl) ?_
  refine lv_iconst (v := 2) hx hb dJ6_bitCount_0f7a4_16 (by decide) ?_
  refine lv_iushr (v := ((bc1 v).toUInt32 >>> ((2 : Int32).toUInt32 &&& Int32.toUInt32 31)).toInt32) hx hb dJ6_bitCount_0f7a4_17 rfl ?_
  refine lv_ldcw hx hb hown (hts (.constant RJ6 266 (858993459)) (List.mem_of_getElem? (i := 2) rfl)) dJ6_bitCount_0f7a4_18 ?_
  refine lv_iand hx hb dJ6_bitCount_0f7a4_21 ?_
  refine lv_iadd hx hb dJ6_bitCount_0f7a4_22 ?_
  refine lv_cst (y := bc2 (bc1 v)) rfl ?_
  refine lv_istore_n (lv' := [(0, .int (bc2 (bc1 v)))]) hx hb dJ6_bitCount_0f7a4_23 rfl hl (by decide) rfl (fun ls hl => ?_)
  refine lv_iload_n hx hb dJ6_bitCount_0f7a4_24 rfl (lv_at hl 0 rfl) ?_
  refine lv_iload_n hx hb dJ6_bitCount_0f7a4_25 rfl (lv_at hl 0 rfl) ?_
  refine lv_iconst (v := 4) hx hb dJ6_bitCount_0f7a4_26 (by decide) ?_
  refine lv_iushr (v := ((bc2 (bc1 v)).toUInt32 >>> ((4 : Int32).toUInt32 &&& Int32.toUInt32 31)).toInt32) hx hb dJ6_bitCount_0f7a4_27 rfl ?_
  refine lv_iadd hx hb dJ6_bitCount_0f7a4_28 ?_
  refine lv_ldcw hx hb hown (hts (.constant RJ6 267 (252645135)) (List.mem_of_getElem? (i := 3) rfl)) dJ6_bitCount_0f7a4_29 ?_
  refine lv_iand hx hb dJ6_bitCount_0f7a4_32 ?_
  refine lv_cst (y := bc3 (bc2 (bc1 v))) rfl ?_
  refine lv_istore_n (lv' := [(0, .int (bc3 (bc2 (bc1 v))))]) hx hb dJ6_bitCount_0f7a4_33 rfl hl (by decide) rfl (fun ls hl => ?_)
  refine lv_iload_n hx hb dJ6_bitCount_0f7a4_34 rfl (lv_at hl 0 rfl) ?_
  refine lv_iload_n hx hb dJ6_bitCount_0f7a4_35 rfl (lv_at hl 0 rfl) ?_
  refine lv_bipush (v := 8) hx hb dJ6_bitCount_0f7a4_36 (by decide) ?_
  refine lv_iushr (v := ((bc3 (bc2 (bc1 v))).toUInt32 >>> ((8 : Int32).toUInt32 &&& Int32.toUInt32 31)).toInt32) hx hb dJ6_bitCount_0f7a4_38 rfl ?_
  refine lv_iadd hx hb dJ6_bitCount_0f7a4_39 ?_
  refine lv_cst (y := bc4 (bc3 (bc2 (bc1 v)))) rfl ?_
  refine lv_istore_n (lv' := [(0, .int (bc4 (bc3 (bc2 (bc1 v)))))]) hx hb dJ6_bitCount_0f7a4_40 rfl hl (by decide) rfl (fun ls hl => ?_)
  refine lv_iload_n hx hb dJ6_bitCount_0f7a4_41 rfl (lv_at hl 0 rfl) ?_
  refine lv_iload_n hx hb dJ6_bitCount_0f7a4_42 rfl (lv_at hl 0 rfl) ?_
  refine lv_bipush (v := 16) hx hb dJ6_bitCount_0f7a4_43 (by decide) ?_
  refine lv_iushr (v := ((bc4 (bc3 (bc2 (bc1 v)))).toUInt32 >>> ((16 : Int32).toUInt32 &&& Int32.toUInt32 31)).toInt32) hx hb dJ6_bitCount_0f7a4_45 rfl ?_
  refine lv_iadd hx hb dJ6_bitCount_0f7a4_46 ?_
  refine lv_cst (y := bc5 (bc4 (bc3 (bc2 (bc1 v))))) rfl ?_
  refine lv_istore_n (lv' := [(0, .int (bc5 (bc4 (bc3 (bc2 (bc1 v))))))]) hx hb dJ6_bitCount_0f7a4_47 rfl hl (by decide) rfl (fun ls hl => ?_)
  refine lv_iload_n hx hb dJ6_bitCount_0f7a4_48 rfl (lv_at hl 0 rfl) ?_
  refine lv_bipush (v := 63) hx hb dJ6_bitCount_0f7a4_49 (by decide) ?_
  refine lv_iand hx hb dJ6_bitCount_0f7a4_51 ?_
  exact W.iret (v := (bc5 (bc4 (bc3 (bc2 (bc1 v))))) &&& 63) hx hb hr (fun t9 ht9 hW9 => ⟨(bc5 (bc4 (bc3 (bc2 (bc1 v))))) &&& 63, rfl, rfl, ht9⟩) (fun _ h => absurd h List.not_mem_nil) dJ6_bitCount_0f7a4_52
set_option maxHeartbeats 4000000 in
set_option maxRecDepth 100000 in
theorem g_X_allThings (l : Launch) {D : va_G} {cI cZ : ClassId} {q : Nat → Nat} {tc nc ac : Nat} {ch : Int32} {U : Nat → Int32} {Z : Nat → Bool} {B L F : Nat → Int32} {H : Heap} (hP : va_P D vwCl (wX cI cZ q tc nc ac ch U Z B L F) H) (htc : tc ≤ 8) (hnc : nc ≤ 40) (hac : ac ≤ 8) : Met l yX0_allThings wsX0_allThings ({ frames := 0, cells := 0, slots := 0, locals := 0 }) (va_Pc [.ref (q 0)] (rd D vwCl (tyA cI cZ) H)) (vp_Si (fun r => r = nI (pw tc - 1))) 0 0 (fun _ => False) := by
  refine Met.ofW (cc := cX0_allThings) (maxL := 1) (ret := (some .int)) (by decide) rfl ?_
  intro p e s m args below meth c s₁ B9 hml hv
  obtain ⟨rfl, hH, hK⟩ := hv
  subst hH
  have hx := B9.exec
  have hb := B9.bytes
  have hr := B9.returns
  have hts := atoms_spec (ws := wsX0_allThings) B9.pre
  have hown : s.vm.findClass RX0 = some m.cls := findClass_of_methodNamed B9.named
  have hlocks := B9.notSynchronized
  have hin : ∀ w ∈ u_ws RX0 TX0 10, w ∈ wsX0_allThings := fun w h => List.mem_cons_of_mem _ (List.mem_append_right _ h)
  have hl := lv_entry ([.ref (q 0)]) (n := 1) (Nat.le_of_ble_eq_true rfl)
  rw [lg_entry_eq]
  generalize (lg_sl ([.ref (q 0)]) ++ List.replicate (1 - (lg_sl ([.ref (q 0)])).length) Slot.unset).toArray = ls at hl ⊢
  have hl : lv_has ls 1 [(0, .ref (q 0))] := hl
  refine lv_iconst (v := 1) hx hb dX0_allThings_0 (by decide) ?_
  refine lv_aload_n hx hb dX0_allThings_1 rfl (lv_at hl 0 rfl) ?_
  refine va_get (D := D) (ci := 0) (v := .int (nI tc)) (C := RX0) (T := TX0) (N := 10) hx hb hts hin hown hK hP 0 rfl rfl 0 (by decide) (hts (.fieldLink RX0 9 "SmudgedStar" "thingCount" "I") (List.mem_of_getElem? (i := 1) rfl)) (fun _ h9 => h9) rfl dX0_allThings_2 ?_
  refine lv_ishl hx hb dX0_allThings_5 ?_
  refine lv_iconst (v := 1) hx hb dX0_allThings_6 (by decide) ?_
  refine lv_isub hx hb dX0_allThings_7 ?_
  exact W.iret (v := ((1 : Int32) <<< ((nI tc) &&& 31)) - 1) hx hb hr (fun t9 ht9 hW9 => ⟨((1 : Int32) <<< ((nI tc) &&& 31)) - 1, rfl, (all_eq htc), ht9⟩) (fun _ h => absurd h List.not_mem_nil) dX0_allThings_8
set_option maxHeartbeats 4000000 in
set_option maxRecDepth 100000 in
theorem g_X_missesOf (l : Launch) {D : va_G} {cI cZ : ClassId} {q : Nat → Nat} {tc nc ac : Nat} {ch : Int32} {U : Nat → Int32} {Z : Nat → Bool} {B L F : Nat → Int32} {H : Heap} (hP : va_P D vwCl (wX cI cZ q tc nc ac ch U Z B L F) H) (htc : tc ≤ 8) (hnc : nc ≤ 40) (hac : ac ≤ 8) {k : Nat} (hk : k < 256) : Met l yX0_missesOf wsX0_missesOf ({ frames := 0, cells := 0, slots := 0, locals := 0 }) (va_Pc [.ref (q 0), .int (nI k)] (rd D vwCl (tyA cI cZ) H)) (vp_Si (fun r => r = nI (un U Z (nI k) nc))) 0 0 (fun _ => False) := by
  refine Met.ofW (cc := cX0_missesOf) (maxL := 2) (ret := (some .int)) (by decide) rfl ?_
  intro p e s m args below meth c s₁ B9 hml hv
  obtain ⟨rfl, hH, hK⟩ := hv
  subst hH
  have hx := B9.exec
  have hb := B9.bytes
  have hr := B9.returns
  have hts := atoms_spec (ws := wsX0_missesOf) B9.pre
  have hown : s.vm.findClass RX0 = some m.cls := findClass_of_methodNamed B9.named
  have hlocks := B9.notSynchronized
  have hin : ∀ w ∈ u_ws RX0 TX0 10, w ∈ wsX0_missesOf := fun w h => List.mem_cons_of_mem _ (List.mem_append_right _ h)
  have hl := lv_entry ([.ref (q 0), .int (nI k)]) (n := 2) (Nat.le_of_ble_eq_true rfl)
  rw [lg_entry_eq]
  generalize (lg_sl ([.ref (q 0), .int (nI k)]) ++ List.replicate (2 - (lg_sl ([.ref (q 0), .int (nI k)])).length) Slot.unset).toArray = ls at hl ⊢
  have hl : lv_has ls 2 [(0, .ref (q 0)), (1, .int (nI k))] := hl
  refine lv_aload_n hx hb dX0_missesOf_0 rfl (lv_at hl 0 rfl) ?_
  refine va_get (D := D) (ci := 0) (v := .ref (q 3)) (C := RX0) (T := TX0) (N := 10) hx hb hts hin hown hK hP 0 rfl rfl 4 (by decide) (hts (.fieldLink RX0 24 "SmudgedStar" "missedNights" "[I") (List.mem_of_getElem? (i := 1) rfl)) (fun _ h9 => h9) rfl dX0_missesOf_1 ?_
  refine lv_iload_n hx hb dX0_missesOf_4 rfl (lv_at hl 1 rfl) ?_
  refine lv_sipush (v := 255) hx hb dX0_missesOf_5 (by decide) ?_
  refine lv_iand hx hb dX0_missesOf_8 ?_
  refine lv_cst (y := nI k) (and255 hk) ?_
  refine ia_ld hx hb hK hP 3 0 rfl rfl (j := k) (hk) (by decide) dX0_missesOf_9 ?_
  exact W.iret (v := (mis U Z nc) k) hx hb hr (fun t9 ht9 hW9 => ⟨(mis U Z nc) k, rfl, rfl, ht9⟩) (fun _ h => absurd h List.not_mem_nil) dX0_missesOf_10
set_option maxHeartbeats 4000000 in
set_option maxRecDepth 100000 in
theorem g_X_requireThing (l : Launch) {D : va_G} {cI cZ : ClassId} {q : Nat → Nat} {tc nc ac : Nat} {ch : Int32} {U : Nat → Int32} {Z : Nat → Bool} {B L F : Nat → Int32} {H : Heap} (hP : va_P D vwCl (wX cI cZ q tc nc ac ch U Z B L F) H) (htc : tc ≤ 8) (hnc : nc ≤ 40) (hac : ac ≤ 8) {t : Nat} (ht : t < tc) : Met l yX0_requireThing wsX0_requireThing ({ frames := 0, cells := 0, slots := 0, locals := 0 }) (va_Pc [.ref (q 0), .int (nI t)] (rd D vwCl (tyA cI cZ) H)) (va_Sv (fun _ => True)) 0 0 (fun _ => False) := by
  refine Met.ofW (cc := cX0_requireThing) (maxL := 2) (ret := none) (by decide) rfl ?_
  intro p e s m args below meth c s₁ B9 hml hv
  obtain ⟨rfl, hH, hK⟩ := hv
  subst hH
  have hx := B9.exec
  have hb := B9.bytes
  have hr := B9.returns
  have hts := atoms_spec (ws := wsX0_requireThing) B9.pre
  have hown : s.vm.findClass RX0 = some m.cls := findClass_of_methodNamed B9.named
  have hlocks := B9.notSynchronized
  have hin : ∀ w ∈ u_ws RX0 TX0 10, w ∈ wsX0_requireThing := fun w h => List.mem_cons_of_mem _ (List.mem_append_left _ (List.mem_append_right _ h))
  have hl := lv_entry ([.ref (q 0), .int (nI t)]) (n := 2) (Nat.le_of_ble_eq_true rfl)
  rw [lg_entry_eq]
  generalize (lg_sl ([.ref (q 0), .int (nI t)]) ++ List.replicate (2 - (lg_sl ([.ref (q 0), .int (nI t)])).length) Slot.unset).toArray = ls at hl ⊢
  have hl : lv_has ls 2 [(0, .ref (q 0)), (1, .int (nI t))] := hl
  refine lv_iload_n hx hb dX0_requireThing_0 rfl (lv_at hl 1 rfl) ?_
  refine lv_if_lt (tgt := 12) hx hb dX0_requireThing_1 (by decide) (fun c1 => absurd c1 (nI_pos (by omega))) (fun c1 => ?_)
  refine lv_iload_n hx hb dX0_requireThing_4 rfl (lv_at hl 1 rfl) ?_
  refine lv_aload_n hx hb dX0_requireThing_5 rfl (lv_at hl 0 rfl) ?_
  refine va_get (D := D) (ci := 0) (v := .int (nI tc)) (C := RX0) (T := TX0) (N := 10) hx hb hts hin hown hK hP 0 rfl rfl 0 (by decide) (hts (.fieldLink RX0 9 "SmudgedStar" "thingCount" "I") (List.mem_of_getElem? (i := 3) rfl)) (fun _ h9 => h9) rfl dX0_requireThing_6 ?_
  refine lv_icmp_lt (tgt := 22) hx hb dX0_requireThing_9 (by decide) (fun c9 => ?_) (fun c9 => absurd (nI_lt ht (by omega)) c9)
  exact W.vret hx hb hr (fun t9 ht9 hW9 => ⟨rfl, trivial, ht9⟩) (fun _ h => absurd h List.not_mem_nil) dX0_requireThing_22
set_option maxHeartbeats 4000000 in
set_option maxRecDepth 100000 in
theorem g_X_requireNight (l : Launch) {D : va_G} {cI cZ : ClassId} {q : Nat → Nat} {tc nc ac : Nat} {ch : Int32} {U : Nat → Int32} {Z : Nat → Bool} {B L F : Nat → Int32} {H : Heap} (hP : va_P D vwCl (wX cI cZ q tc nc ac ch U Z B L F) H) (htc : tc ≤ 8) (hnc : nc ≤ 40) (hac : ac ≤ 8) {t : Nat} (ht : t < nc) : Met l yX0_requireNight wsX0_requireNight ({ frames := 0, cells := 0, slots := 0, locals := 0 }) (va_Pc [.ref (q 0), .int (nI t)] (rd D vwCl (tyA cI cZ) H)) (va_Sv (fun _ => True)) 0 0 (fun _ => False) := by
  refine Met.ofW (cc := cX0_requireNight) (maxL := 2) (ret := none) (by decide) rfl ?_
  intro p e s m args below meth c s₁ B9 hml hv
  obtain ⟨rfl, hH, hK⟩ := hv
  subst hH
  have hx := B9.exec
  have hb := B9.bytes
  have hr := B9.returns
  have hts := atoms_spec (ws := wsX0_requireNight) B9.pre
  have hown : s.vm.findClass RX0 = some m.cls := findClass_of_methodNamed B9.named
  have hlocks := B9.notSynchronized
  have hin : ∀ w ∈ u_ws RX0 TX0 10, w ∈ wsX0_requireNight := fun w h => List.mem_cons_of_mem _ (List.mem_append_left _ (List.mem_append_right _ h))
  have hl := lv_entry ([.ref (q 0), .int (nI t)]) (n := 2) (Nat.le_of_ble_eq_true rfl)
  rw [lg_entry_eq]
  generalize (lg_sl ([.ref (q 0), .int (nI t)]) ++ List.replicate (2 - (lg_sl ([.ref (q 0), .int (nI t)])).length) Slot.unset).toArray = ls at hl ⊢
  have hl : lv_has ls 2 [(0, .ref (q 0)), (1, .int (nI t))] := hl
  refine lv_iload_n hx hb dX0_requireNight_0 rfl (lv_at hl 1 rfl) ?_
  refine lv_if_lt (tgt := 12) hx hb dX0_requireNight_1 (by decide) (fun c1 => absurd c1 (nI_pos (by omega))) (fun c1 => ?_)
  refine lv_iload_n hx hb dX0_requireNight_4 rfl (lv_at hl 1 rfl) ?_
  refine lv_aload_n hx hb dX0_requireNight_5 rfl (lv_at hl 0 rfl) ?_
  refine va_get (D := D) (ci := 0) (v := .int (nI nc)) (C := RX0) (T := TX0) (N := 10) hx hb hts hin hown hK hP 0 rfl rfl 1 (by decide) (hts (.fieldLink RX0 13 "SmudgedStar" "nightCount" "I") (List.mem_of_getElem? (i := 3) rfl)) (fun _ h9 => h9) rfl dX0_requireNight_6 ?_
  refine lv_icmp_lt (tgt := 22) hx hb dX0_requireNight_9 (by decide) (fun c9 => ?_) (fun c9 => absurd (nI_lt ht (by omega)) c9)
  exact W.vret hx hb hr (fun t9 ht9 hW9 => ⟨rfl, trivial, ht9⟩) (fun _ h => absurd h List.not_mem_nil) dX0_requireNight_22
set_option maxHeartbeats 4000000 in
set_option maxRecDepth 100000 in
theorem g_X_requireAstronomer (l : Launch) {D : va_G} {cI cZ : ClassId} {q : Nat → Nat} {tc nc ac : Nat} {ch : Int32} {U : Nat → Int32} {Z : Nat → Bool} {B L F : Nat → Int32} {H : Heap} (hP : va_P D vwCl (wX cI cZ q tc nc ac ch U Z B L F) H) (htc : tc ≤ 8) (hnc : nc ≤ 40) (hac : ac ≤ 8) {t : Nat} (ht : t < ac) : Met l yX0_requireAstronomer wsX0_requireAstronomer ({ frames := 0, cells := 0, slots := 0, locals := 0 }) (va_Pc [.ref (q 0), .int (nI t)] (rd D vwCl (tyA cI cZ) H)) (va_Sv (fun _ => True)) 0 0 (fun _ => False) := by
  refine Met.ofW (cc := cX0_requireAstronomer) (maxL := 2) (ret := none) (by decide) rfl ?_
  intro p e s m args below meth c s₁ B9 hml hv
  obtain ⟨rfl, hH, hK⟩ := hv
  subst hH
  have hx := B9.exec
  have hb := B9.bytes
  have hr := B9.returns
  have hts := atoms_spec (ws := wsX0_requireAstronomer) B9.pre
  have hown : s.vm.findClass RX0 = some m.cls := findClass_of_methodNamed B9.named
  have hlocks := B9.notSynchronized
  have hin : ∀ w ∈ u_ws RX0 TX0 10, w ∈ wsX0_requireAstronomer := fun w h => List.mem_cons_of_mem _ (List.mem_append_left _ (List.mem_append_right _ h))
  have hl := lv_entry ([.ref (q 0), .int (nI t)]) (n := 2) (Nat.le_of_ble_eq_true rfl)
  rw [lg_entry_eq]
  generalize (lg_sl ([.ref (q 0), .int (nI t)]) ++ List.replicate (2 - (lg_sl ([.ref (q 0), .int (nI t)])).length) Slot.unset).toArray = ls at hl ⊢
  have hl : lv_has ls 2 [(0, .ref (q 0)), (1, .int (nI t))] := hl
  refine lv_iload_n hx hb dX0_requireAstronomer_0 rfl (lv_at hl 1 rfl) ?_
  refine lv_if_lt (tgt := 12) hx hb dX0_requireAstronomer_1 (by decide) (fun c1 => absurd c1 (nI_pos (by omega))) (fun c1 => ?_)
  refine lv_iload_n hx hb dX0_requireAstronomer_4 rfl (lv_at hl 1 rfl) ?_
  refine lv_aload_n hx hb dX0_requireAstronomer_5 rfl (lv_at hl 0 rfl) ?_
  refine va_get (D := D) (ci := 0) (v := .int (nI ac)) (C := RX0) (T := TX0) (N := 10) hx hb hts hin hown hK hP 0 rfl rfl 5 (by decide) (hts (.fieldLink RX0 27 "SmudgedStar" "astronomerCount" "I") (List.mem_of_getElem? (i := 3) rfl)) (fun _ h9 => h9) rfl dX0_requireAstronomer_6 ?_
  refine lv_icmp_lt (tgt := 22) hx hb dX0_requireAstronomer_9 (by decide) (fun c9 => ?_) (fun c9 => absurd (nI_lt ht (by omega)) c9)
  exact W.vret hx hb hr (fun t9 ht9 hW9 => ⟨rfl, trivial, ht9⟩) (fun _ h => absurd h List.not_mem_nil) dX0_requireAstronomer_22
set_option maxHeartbeats 4000000 in
set_option maxRecDepth 100000 in
theorem g_X_requireSet (l : Launch) {D : va_G} {cI cZ : ClassId} {q : Nat → Nat} {tc nc ac : Nat} {ch : Int32} {U : Nat → Int32} {Z : Nat → Bool} {B L F : Nat → Int32} {H : Heap} (hP : va_P D vwCl (wX cI cZ q tc nc ac ch U Z B L F) H) (htc : tc ≤ 8) (hnc : nc ≤ 40) (hac : ac ≤ 8) {k : Nat} (hk : k < pw tc) : Met l yX0_requireSet wsX0_requireSet ({ frames := 1, cells := 0, slots := 0, locals := 20 }) (va_Pc [.ref (q 0), .int (nI k)] (rd D vwCl (tyA cI cZ) H)) (va_Sv (fun _ => True)) 0 0 (fun _ => False) := by
  refine Met.ofW (cc := cX0_requireSet) (maxL := 2) (ret := none) (by decide) rfl ?_
  intro p e s m args below meth c s₁ B9 hml hv
  obtain ⟨rfl, hH, hK⟩ := hv
  subst hH
  have hx := B9.exec
  have hb := B9.bytes
  have hr := B9.returns
  have hts := atoms_spec (ws := wsX0_requireSet) B9.pre
  have hown : s.vm.findClass RX0 = some m.cls := findClass_of_methodNamed B9.named
  have hlocks := B9.notSynchronized
  have hl := lv_entry ([.ref (q 0), .int (nI k)]) (n := 2) (Nat.le_of_ble_eq_true rfl)
  rw [lg_entry_eq]
  generalize (lg_sl ([.ref (q 0), .int (nI k)]) ++ List.replicate (2 - (lg_sl ([.ref (q 0), .int (nI k)])).length) Slot.unset).toArray = ls at hl ⊢
  have hl : lv_has ls 2 [(0, .ref (q 0)), (1, .int (nI k))] := hl
  have hpw := pw_in htc
  refine lv_iload_n hx hb dX0_requireSet_0 rfl (lv_at hl 1 rfl) ?_
  refine lv_if_lt (tgt := 12) hx hb dX0_requireSet_1 (by decide) (fun c1 => absurd c1 (nI_pos (by omega))) (fun c1 => ?_)
  refine lv_iload_n hx hb dX0_requireSet_4 rfl (lv_at hl 1 rfl) ?_
  refine lv_aload_n hx hb dX0_requireSet_5 rfl (lv_at hl 0 rfl) ?_
  refine pcV_i (As := []) (rest := [.int (nI k)]) ⟨hx, hb, hml, hown, hts⟩ (g_X_allThings l hP htc hnc hac) (cwV 0 hts gX0_requireSet_X0_allThings rfl rfl rfl hdX0_allThings ⟨Nat.le_of_ble_eq_true rfl, Nat.le_of_ble_eq_true rfl⟩) (va_recv hK hP (ci := 0) (q0 := 0) rfl rfl) hK rfl hl.1 (Nat.le_of_ble_eq_true rfl) rfl dX0_requireSet_6 ⟨Nat.le_of_ble_eq_true rfl, Nat.le_of_ble_eq_true rfl⟩ ?_
  refine lv_icmp_le (tgt := 22) hx hb dX0_requireSet_9 (by decide) (fun c9 => ?_) (fun c9 => absurd (nI_le (by omega) (by omega)) c9)
  exact W.vret hx hb hr (fun t9 ht9 hW9 => ⟨rfl, trivial, ht9⟩) (fun _ h => absurd h List.not_mem_nil) dX0_requireSet_22
set_option maxHeartbeats 4000000 in
set_option maxRecDepth 100000 in
theorem g_X_requireUsableSet (l : Launch) {D : va_G} {cI cZ : ClassId} {q : Nat → Nat} {tc nc ac : Nat} {ch : Int32} {U : Nat → Int32} {Z : Nat → Bool} {B L F : Nat → Int32} {H : Heap} (hP : va_P D vwCl (wX cI cZ q tc nc ac ch U Z B L F) H) (htc : tc ≤ 8) (hnc : nc ≤ 40) (hac : ac ≤ 8) {k : Nat} (hk0 : 1 ≤ k) (hk : k < pw tc) : Met l yX0_requireUsableSet wsX0_requireUsableSet ({ frames := 1, cells := 0, slots := 0, locals := 20 }) (va_Pc [.ref (q 0), .int (nI k)] (rd D vwCl (tyA cI cZ) H)) (va_Sv (fun _ => True)) 0 0 (fun _ => False) := by
  refine Met.ofW (cc := cX0_requireUsableSet) (maxL := 2) (ret := none) (by decide) rfl ?_
  intro p e s m args below meth c s₁ B9 hml hv
  obtain ⟨rfl, hH, hK⟩ := hv
  subst hH
  have hx := B9.exec
  have hb := B9.bytes
  have hr := B9.returns
  have hts := atoms_spec (ws := wsX0_requireUsableSet) B9.pre
  have hown : s.vm.findClass RX0 = some m.cls := findClass_of_methodNamed B9.named
  have hlocks := B9.notSynchronized
  have hl := lv_entry ([.ref (q 0), .int (nI k)]) (n := 2) (Nat.le_of_ble_eq_true rfl)
  rw [lg_entry_eq]
  generalize (lg_sl ([.ref (q 0), .int (nI k)]) ++ List.replicate (2 - (lg_sl ([.ref (q 0), .int (nI k)])).length) Slot.unset).toArray = ls at hl ⊢
  have hl : lv_has ls 2 [(0, .ref (q 0)), (1, .int (nI k))] := hl
  have hpw := pw_in htc
  refine lv_iload_n hx hb dX0_requireUsableSet_0 rfl (lv_at hl 1 rfl) ?_
  refine lv_iconst (v := 1) hx hb dX0_requireUsableSet_1 (by decide) ?_
  refine lv_icmp_lt (tgt := 13) hx hb dX0_requireUsableSet_2 (by decide) (fun c2 => absurd c2 (nI_nlt (b := 1) (by omega) (by omega))) (fun c2 => ?_)
  refine lv_iload_n hx hb dX0_requireUsableSet_5 rfl (lv_at hl 1 rfl) ?_
  refine lv_aload_n hx hb dX0_requireUsableSet_6 rfl (lv_at hl 0 rfl) ?_
  refine pcV_i (As := []) (rest := [.int (nI k)]) ⟨hx, hb, hml, hown, hts⟩ (g_X_allThings l hP htc hnc hac) (cwV 0 hts gX0_requireUsableSet_X0_allThings rfl rfl rfl hdX0_allThings ⟨Nat.le_of_ble_eq_true rfl, Nat.le_of_ble_eq_true rfl⟩) (va_recv hK hP (ci := 0) (q0 := 0) rfl rfl) hK rfl hl.1 (Nat.le_of_ble_eq_true rfl) rfl dX0_requireUsableSet_7 ⟨Nat.le_of_ble_eq_true rfl, Nat.le_of_ble_eq_true rfl⟩ ?_
  refine lv_icmp_le (tgt := 23) hx hb dX0_requireUsableSet_10 (by decide) (fun c10 => ?_) (fun c10 => absurd (nI_le (by omega) (by omega)) c10)
  exact W.vret hx hb hr (fun t9 ht9 hW9 => ⟨rfl, trivial, ht9⟩) (fun _ h => absurd h List.not_mem_nil) dX0_requireUsableSet_23
set_option maxHeartbeats 4000000 in
set_option maxRecDepth 100000 in
theorem g_X_requireRoomForNight (l : Launch) {D : va_G} {cI cZ : ClassId} {q : Nat → Nat} {tc nc ac : Nat} {ch : Int32} {U : Nat → Int32} {Z : Nat → Bool} {B L F : Nat → Int32} {H : Heap} (hP : va_P D vwCl (wX cI cZ q tc nc ac ch U Z B L F) H) (htc : tc ≤ 8) (hnc : nc ≤ 40) (hac : ac ≤ 8) (h40 : nc < 40) : Met l yX0_requireRoomForNight wsX0_requireRoomForNight ({ frames := 0, cells := 0, slots := 0, locals := 0 }) (va_Pc [.ref (q 0)] (rd D vwCl (tyA cI cZ) H)) (va_Sv (fun _ => True)) 0 0 (fun _ => False) := by
  refine Met.ofW (cc := cX0_requireRoomForNight) (maxL := 1) (ret := none) (by decide) rfl ?_
  intro p e s m args below meth c s₁ B9 hml hv
  obtain ⟨rfl, hH, hK⟩ := hv
  subst hH
  have hx := B9.exec
  have hb := B9.bytes
  have hr := B9.returns
  have hts := atoms_spec (ws := wsX0_requireRoomForNight) B9.pre
  have hown : s.vm.findClass RX0 = some m.cls := findClass_of_methodNamed B9.named
  have hlocks := B9.notSynchronized
  have hin : ∀ w ∈ u_ws RX0 TX0 10, w ∈ wsX0_requireRoomForNight := fun w h => List.mem_cons_of_mem _ (List.mem_append_left _ (List.mem_append_right _ h))
  have hl := lv_entry ([.ref (q 0)]) (n := 1) (Nat.le_of_ble_eq_true rfl)
  rw [lg_entry_eq]
  generalize (lg_sl ([.ref (q 0)]) ++ List.replicate (1 - (lg_sl ([.ref (q 0)])).length) Slot.unset).toArray = ls at hl ⊢
  have hl : lv_has ls 1 [(0, .ref (q 0))] := hl
  refine lv_aload_n hx hb dX0_requireRoomForNight_0 rfl (lv_at hl 0 rfl) ?_
  refine va_get (D := D) (ci := 0) (v := .int (nI nc)) (C := RX0) (T := TX0) (N := 10) hx hb hts hin hown hK hP 0 rfl rfl 1 (by decide) (hts (.fieldLink RX0 13 "SmudgedStar" "nightCount" "I") (List.mem_of_getElem? (i := 3) rfl)) (fun _ h9 => h9) rfl dX0_requireRoomForNight_1 ?_
  refine lv_bipush (v := 40) hx hb dX0_requireRoomForNight_4 (by decide) ?_
  refine lv_icmp_lt (tgt := 19) hx hb dX0_requireRoomForNight_6 (by decide) (fun c6 => ?_) (fun c6 => absurd (nI_lt (b := 40) h40 (by decide)) c6)
  exact W.vret hx hb hr (fun t9 ht9 hW9 => ⟨rfl, trivial, ht9⟩) (fun _ h => absurd h List.not_mem_nil) dX0_requireRoomForNight_19
