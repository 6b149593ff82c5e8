/-! constructors; the reference's checksum -/
set_option maxHeartbeats 4000000 in
set_option maxRecDepth 100000 in
theorem w_X_init (l : Launch) {D : va_G} {h0 : Nat} {H : Heap} (hP : va_P D vwCl [(h0, .inr (0, [.int 0, .int 0, .null, .null, .null, .int 0, .null, .null, .null, .int 0]))] H) (hD0 : va_D (fun _ => True) [(h0, .inr (0, [.int 0, .int 0, .null, .null, .null, .int 0, .null, .null, .null, .int 0]))]) : Met l yX0_init wsX0_init ({ frames := 1, cells := 6, slots := 360, locals := 20 }) (va_Pc [.ref h0] (rd D vwCl [] H)) (va_Qv (fun _ : Unit => True) (fun _ t8 => ∃ (q : Nat → Nat) (cI cZ : ClassId), q 0 = h0 ∧ va_P D vwCl (wX cI cZ q 0 0 0 0 (fun _ => 0) (fun _ => false) (fun _ => 0) (fun _ => 0) (fun _ => 0)) t8.heap ∧ va_K D vwCl (tyA cI cZ) t8 ∧ va_D (va_A [(h0, .inr (0, [.int 0, .int 0, .null, .null, .null, .int 0, .null, .null, .null, .int 0]))] H.size) (wX cI cZ q 0 0 0 0 (fun _ => 0) (fun _ => false) (fun _ => 0) (fun _ => 0) (fun _ => 0))) (va_A [(h0, .inr (0, [.int 0, .int 0, .null, .null, .null, .int 0, .null, .null, .null, .int 0]))] H.size)) 6 360 (va_A [(h0, .inr (0, [.int 0, .int 0, .null, .null, .null, .int 0, .null, .null, .null, .int 0]))] H.size) := by
  refine Met.ofW (cc := cX0_init) (maxL := 1) (ret := none) (by decide) rfl ?_
  intro p e s m args below meth c s₁ B9 hml hv
  obtain ⟨rfl, hH, hK⟩ := hv
  subst hH
  have hx := B9.exec
  have hb := B9.bytes
  have hr := B9.returns
  have hts := atoms_spec (ws := wsX0_init) B9.pre
  have hown : s.vm.findClass RX0 = some m.cls := findClass_of_methodNamed B9.named
  have hlocks := B9.notSynchronized
  have hin2 : meth.name = "<init>" := (name_of_methodNamed B9.named B9.method).1
  have hin : ∀ w ∈ u_ws RX0 TX0 10, w ∈ wsX0_init := fun w h => List.mem_cons_of_mem _ (List.mem_append_right _ h)
  have hD := hD0.self (sz := s.heap.size)
  generalize hAe : va_A [(h0, .inr (0, [.int 0, .int 0, .null, .null, .null, .int 0, .null, .null, .null, .int 0]))] s.heap.size = A at hD ⊢
  have hA : ∀ q : Nat, s.heap.size ≤ q → A q := fun q h => by rw [← hAe]; exact Or.inr h
  have hS : va_S A s.heap s.heap [] := va_S.rf
  have hl := lv_entry ([.ref h0]) (n := 1) (Nat.le_of_ble_eq_true rfl)
  rw [lg_entry_eq]
  generalize (lg_sl ([.ref h0]) ++ List.replicate (1 - (lg_sl ([.ref h0])).length) Slot.unset).toArray = ls at hl ⊢
  have hl : lv_has ls 1 [(0, .ref h0)] := hl
  refine lv_aload_n hx hb dX0_init_0 rfl (lv_at hl 0 rfl) ?_
  refine W.objInit hx hb hown (hts (.methodLink RX0 3 objectInit) (List.mem_of_getElem? (i := 1) rfl)) (hts (.instanceMethod objectInit) (List.mem_of_getElem? (i := 2) rfl)) (hts (.code objectInit ⟨#[0xb1]⟩ 1 none) (List.mem_of_getElem? (i := 3) rfl)) rfl (by rw [hml]; exact hl.1) rfl dX0_init_1 (Nat.le_of_ble_eq_true rfl) (Nat.le_of_ble_eq_true rfl) ?_
  refine W.eq (g2 := F0 m 4 ls []) rfl ?_
  refine lv_aload_n hx hb dX0_init_4 rfl (lv_at hl 0 rfl) ?_
  refine lv_iconst (v := 0) hx hb dX0_init_5 (by decide) ?_
  refine va_put (D := D) (ci := 0) (v := .int 0) (ty := .int) (C := RX0) (T := TX0) (N := 10) hx hb hts hin tyX0 tyX0_ok nmX0 hown hK hP hD hS 0 rfl rfl 0 (by decide) (hts (.fieldLink RX0 9 "SmudgedStar" "thingCount" "I") (List.mem_of_getElem? (i := 4) rfl)) (fun _ h9 => h9) rfl (by decide +kernel) rfl rfl (Nat.le_of_ble_eq_true rfl) dX0_init_6 (fun H locs hP hD hS => ?_)
  have hP : va_P D vwCl [(h0, .inr (0, [.int 0, .int 0, .null, .null, .null, .int 0, .null, .null, .null, .int 0]))] H := hP
  have hD : va_D A [(h0, .inr (0, [.int 0, .int 0, .null, .null, .null, .int 0, .null, .null, .null, .int 0]))] := hD
  refine lv_aload_n hx hb dX0_init_9 rfl (lv_at hl 0 rfl) ?_
  refine lv_iconst (v := 0) hx hb dX0_init_10 (by decide) ?_
  refine va_put (D := D) (ci := 0) (v := .int 0) (ty := .int) (C := RX0) (T := TX0) (N := 10) hx hb hts hin tyX0 tyX0_ok nmX0 hown hK hP hD hS 0 rfl rfl 1 (by decide) (hts (.fieldLink RX0 13 "SmudgedStar" "nightCount" "I") (List.mem_of_getElem? (i := 5) rfl)) (fun _ h9 => h9) rfl (by decide +kernel) rfl rfl (Nat.le_of_ble_eq_true rfl) dX0_init_11 (fun H locs hP hD hS => ?_)
  have hP : va_P D vwCl [(h0, .inr (0, [.int 0, .int 0, .null, .null, .null, .int 0, .null, .null, .null, .int 0]))] H := hP
  have hD : va_D A [(h0, .inr (0, [.int 0, .int 0, .null, .null, .null, .int 0, .null, .null, .null, .int 0]))] := hD
  refine lv_aload_n hx hb dX0_init_14 rfl (lv_at hl 0 rfl) ?_
  refine lv_bipush (v := 40) hx hb dX0_init_15 (by decide) ?_
  refine va_newa (atype := .int) (ty := .int) (N' := 40) (a0 := (40, .inl (fun _ => 0))) hx hb (hts (.arrayClass .int) (List.mem_of_getElem? (i := 6) rfl)) rfl hK hP hD hS hA (fun _ => rfl) (by decide) rfl (Nat.le_of_ble_eq_true rfl) (Nat.le_of_ble_eq_true rfl) (Nat.le_of_ble_eq_true rfl) dX0_init_17 (fun a1 k1 H hK hP hD hS => ?_)
  have hP : va_P D vwCl [(h0, .inr (0, [.int 0, .int 0, .null, .null, .null, .int 0, .null, .null, .null, .int 0])), (a1, .inl (k1, 40, .inl (fun _ => 0)))] H := hP
  have hD : va_D A [(h0, .inr (0, [.int 0, .int 0, .null, .null, .null, .int 0, .null, .null, .null, .int 0])), (a1, .inl (k1, 40, .inl (fun _ => 0)))] := hD
  have hK : va_K D vwCl [(k1, .int)] s := hK
  refine W.widen (k := 1) (n := 40) (Nat.le_of_ble_eq_true rfl) (Nat.le_of_ble_eq_true rfl) ?_
  refine va_putF (D := D) (ci := 0) (v := .ref a1) (ty := .array .int) (C := RX0) (T := TX0) (N := 10) hx hb hts hin tyX0 tyX0_ok nmX0 hown hK hP hD hS 0 rfl rfl 2 (by decide) (hts (.fieldLink RX0 16 "SmudgedStar" "usedThings" "[I") (List.mem_of_getElem? (i := 7) rfl)) (fun _ h9 => h9) rfl hin2 rfl (by decide +kernel) rfl rfl (Nat.le_of_ble_eq_true rfl) dX0_init_19 (fun H locs hP hD hS => ?_)
  have hP : va_P D vwCl [(h0, .inr (0, [.int 0, .int 0, .ref a1, .null, .null, .int 0, .null, .null, .null, .int 0])), (a1, .inl (k1, 40, .inl (fun _ => 0)))] H := hP
  have hD : va_D A [(h0, .inr (0, [.int 0, .int 0, .ref a1, .null, .null, .int 0, .null, .null, .null, .int 0])), (a1, .inl (k1, 40, .inl (fun _ => 0)))] := hD
  refine lv_aload_n hx hb dX0_init_22 rfl (lv_at hl 0 rfl) ?_
  refine lv_bipush (v := 40) hx hb dX0_init_23 (by decide) ?_
  refine va_newa (atype := .boolean) (ty := .boolean) (N' := 40) (a0 := (40, .inl (fun _ => 0))) hx hb (hts (.arrayClass .boolean) (List.mem_of_getElem? (i := 8) rfl)) rfl hK hP hD hS hA (fun _ => rfl) (by decide) rfl (Nat.le_of_ble_eq_true rfl) (Nat.le_of_ble_eq_true rfl) (Nat.le_of_ble_eq_true rfl) dX0_init_25 (fun a2 k2 H hK hP hD hS => ?_)
  have hP : va_P D vwCl [(h0, .inr (0, [.int 0, .int 0, .ref a1, .null, .null, .int 0, .null, .null, .null, .int 0])), (a1, .inl (k1, 40, .inl (fun _ => 0))), (a2, .inl (k2, 40, .inl (fun _ => 0)))] H := hP
  have hD : va_D A [(h0, .inr (0, [.int 0, .int 0, .ref a1, .null, .null, .int 0, .null, .null, .null, .int 0])), (a1, .inl (k1, 40, .inl (fun _ => 0))), (a2, .inl (k2, 40, .inl (fun _ => 0)))] := hD
  have hK : va_K D vwCl [(k1, .int), (k2, .boolean)] s := hK
  refine W.widen (k := 2) (n := 80) (Nat.le_of_ble_eq_true rfl) (Nat.le_of_ble_eq_true rfl) ?_
  refine va_putF (D := D) (ci := 0) (v := .ref a2) (ty := .array .boolean) (C := RX0) (T := TX0) (N := 10) hx hb hts hin tyX0 tyX0_ok nmX0 hown hK hP hD hS 0 rfl rfl 3 (by decide) (hts (.fieldLink RX0 20 "SmudgedStar" "smudgeSeen" "[Z") (List.mem_of_getElem? (i := 9) rfl)) (fun _ h9 => h9) rfl hin2 rfl (by decide +kernel) rfl rfl (Nat.le_of_ble_eq_true rfl) dX0_init_27 (fun H locs hP hD hS => ?_)
  have hP : va_P D vwCl [(h0, .inr (0, [.int 0, .int 0, .ref a1, .ref a2, .null, .int 0, .null, .null, .null, .int 0])), (a1, .inl (k1, 40, .inl (fun _ => 0))), (a2, .inl (k2, 40, .inl (fun _ => 0)))] H := hP
  have hD : va_D A [(h0, .inr (0, [.int 0, .int 0, .ref a1, .ref a2, .null, .int 0, .null, .null, .null, .int 0])), (a1, .inl (k1, 40, .inl (fun _ => 0))), (a2, .inl (k2, 40, .inl (fun _ => 0)))] := hD
  refine lv_aload_n hx hb dX0_init_30 rfl (lv_at hl 0 rfl) ?_
  refine lv_sipush (v := 256) hx hb dX0_init_31 (by decide) ?_
  refine va_newa (atype := .int) (ty := .int) (N' := 256) (a0 := (256, .inl (fun _ => 0))) hx hb (hts (.arrayClass .int) (List.mem_of_getElem? (i := 6) rfl)) rfl hK hP hD hS hA (fun _ => rfl) (by decide) rfl (Nat.le_of_ble_eq_true rfl) (Nat.le_of_ble_eq_true rfl) (Nat.le_of_ble_eq_true rfl) dX0_init_34 (fun a3 k3 H hK hP hD hS => ?_)
  have hP : va_P D vwCl [(h0, .inr (0, [.int 0, .int 0, .ref a1, .ref a2, .null, .int 0, .null, .null, .null, .int 0])), (a1, .inl (k1, 40, .inl (fun _ => 0))), (a2, .inl (k2, 40, .inl (fun _ => 0))), (a3, .inl (k3, 256, .inl (fun _ => 0)))] H := hP
  have hD : va_D A [(h0, .inr (0, [.int 0, .int 0, .ref a1, .ref a2, .null, .int 0, .null, .null, .null, .int 0])), (a1, .inl (k1, 40, .inl (fun _ => 0))), (a2, .inl (k2, 40, .inl (fun _ => 0))), (a3, .inl (k3, 256, .inl (fun _ => 0)))] := hD
  have hK : va_K D vwCl [(k1, .int), (k2, .boolean), (k3, .int)] s := hK
  refine W.widen (k := 3) (n := 336) (Nat.le_of_ble_eq_true rfl) (Nat.le_of_ble_eq_true rfl) ?_
  refine va_putF (D := D) (ci := 0) (v := .ref a3) (ty := .array .int) (C := RX0) (T := TX0) (N := 10) hx hb hts hin tyX0 tyX0_ok nmX0 hown hK hP hD hS 0 rfl rfl 4 (by decide) (hts (.fieldLink RX0 24 "SmudgedStar" "missedNights" "[I") (List.mem_of_getElem? (i := 10) rfl)) (fun _ h9 => h9) rfl hin2 rfl (by decide +kernel) rfl rfl (Nat.le_of_ble_eq_true rfl) dX0_init_36 (fun H locs hP hD hS => ?_)
  have hP : va_P D vwCl [(h0, .inr (0, [.int 0, .int 0, .ref a1, .ref a2, .ref a3, .int 0, .null, .null, .null, .int 0])), (a1, .inl (k1, 40, .inl (fun _ => 0))), (a2, .inl (k2, 40, .inl (fun _ => 0))), (a3, .inl (k3, 256, .inl (fun _ => 0)))] H := hP
  have hD : va_D A [(h0, .inr (0, [.int 0, .int 0, .ref a1, .ref a2, .ref a3, .int 0, .null, .null, .null, .int 0])), (a1, .inl (k1, 40, .inl (fun _ => 0))), (a2, .inl (k2, 40, .inl (fun _ => 0))), (a3, .inl (k3, 256, .inl (fun _ => 0)))] := hD
  refine lv_aload_n hx hb dX0_init_39 rfl (lv_at hl 0 rfl) ?_
  refine lv_iconst (v := 0) hx hb dX0_init_40 (by decide) ?_
  refine va_put (D := D) (ci := 0) (v := .int 0) (ty := .int) (C := RX0) (T := TX0) (N := 10) hx hb hts hin tyX0 tyX0_ok nmX0 hown hK hP hD hS 0 rfl rfl 5 (by decide) (hts (.fieldLink RX0 27 "SmudgedStar" "astronomerCount" "I") (List.mem_of_getElem? (i := 11) rfl)) (fun _ h9 => h9) rfl (by decide +kernel) rfl rfl (Nat.le_of_ble_eq_true rfl) dX0_init_41 (fun H locs hP hD hS => ?_)
  have hP : va_P D vwCl [(h0, .inr (0, [.int 0, .int 0, .ref a1, .ref a2, .ref a3, .int 0, .null, .null, .null, .int 0])), (a1, .inl (k1, 40, .inl (fun _ => 0))), (a2, .inl (k2, 40, .inl (fun _ => 0))), (a3, .inl (k3, 256, .inl (fun _ => 0)))] H := hP
  have hD : va_D A [(h0, .inr (0, [.int 0, .int 0, .ref a1, .ref a2, .ref a3, .int 0, .null, .null, .null, .int 0])), (a1, .inl (k1, 40, .inl (fun _ => 0))), (a2, .inl (k2, 40, .inl (fun _ => 0))), (a3, .inl (k3, 256, .inl (fun _ => 0)))] := hD
  refine lv_aload_n hx hb dX0_init_44 rfl (lv_at hl 0 rfl) ?_
  refine lv_bipush (v := 8) hx hb dX0_init_45 (by decide) ?_
  refine va_newa (atype := .int) (ty := .int) (N' := 8) (a0 := (8, .inl (fun _ => 0))) hx hb (hts (.arrayClass .int) (List.mem_of_getElem? (i := 6) rfl)) rfl hK hP hD hS hA (fun _ => rfl) (by decide) rfl (Nat.le_of_ble_eq_true rfl) (Nat.le_of_ble_eq_true rfl) (Nat.le_of_ble_eq_true rfl) dX0_init_47 (fun a4 k4 H hK hP hD hS => ?_)
  have hP : va_P D vwCl [(h0, .inr (0, [.int 0, .int 0, .ref a1, .ref a2, .ref a3, .int 0, .null, .null, .null, .int 0])), (a1, .inl (k1, 40, .inl (fun _ => 0))), (a2, .inl (k2, 40, .inl (fun _ => 0))), (a3, .inl (k3, 256, .inl (fun _ => 0))), (a4, .inl (k4, 8, .inl (fun _ => 0)))] H := hP
  have hD : va_D A [(h0, .inr (0, [.int 0, .int 0, .ref a1, .ref a2, .ref a3, .int 0, .null, .null, .null, .int 0])), (a1, .inl (k1, 40, .inl (fun _ => 0))), (a2, .inl (k2, 40, .inl (fun _ => 0))), (a3, .inl (k3, 256, .inl (fun _ => 0))), (a4, .inl (k4, 8, .inl (fun _ => 0)))] := hD
  have hK : va_K D vwCl [(k1, .int), (k2, .boolean), (k3, .int), (k4, .int)] s := hK
  refine W.widen (k := 4) (n := 344) (Nat.le_of_ble_eq_true rfl) (Nat.le_of_ble_eq_true rfl) ?_
  refine va_putF (D := D) (ci := 0) (v := .ref a4) (ty := .array .int) (C := RX0) (T := TX0) (N := 10) hx hb hts hin tyX0 tyX0_ok nmX0 hown hK hP hD hS 0 rfl rfl 6 (by decide) (hts (.fieldLink RX0 30 "SmudgedStar" "blamedThings" "[I") (List.mem_of_getElem? (i := 12) rfl)) (fun _ h9 => h9) rfl hin2 rfl (by decide +kernel) rfl rfl (Nat.le_of_ble_eq_true rfl) dX0_init_49 (fun H locs hP hD hS => ?_)
  have hP : va_P D vwCl [(h0, .inr (0, [.int 0, .int 0, .ref a1, .ref a2, .ref a3, .int 0, .ref a4, .null, .null, .int 0])), (a1, .inl (k1, 40, .inl (fun _ => 0))), (a2, .inl (k2, 40, .inl (fun _ => 0))), (a3, .inl (k3, 256, .inl (fun _ => 0))), (a4, .inl (k4, 8, .inl (fun _ => 0)))] H := hP
  have hD : va_D A [(h0, .inr (0, [.int 0, .int 0, .ref a1, .ref a2, .ref a3, .int 0, .ref a4, .null, .null, .int 0])), (a1, .inl (k1, 40, .inl (fun _ => 0))), (a2, .inl (k2, 40, .inl (fun _ => 0))), (a3, .inl (k3, 256, .inl (fun _ => 0))), (a4, .inl (k4, 8, .inl (fun _ => 0)))] := hD
  refine lv_aload_n hx hb dX0_init_52 rfl (lv_at hl 0 rfl) ?_
  refine lv_bipush (v := 8) hx hb dX0_init_53 (by decide) ?_
  refine va_newa (atype := .int) (ty := .int) (N' := 8) (a0 := (8, .inl (fun _ => 0))) hx hb (hts (.arrayClass .int) (List.mem_of_getElem? (i := 6) rfl)) rfl hK hP hD hS hA (fun _ => rfl) (by decide) rfl (Nat.le_of_ble_eq_true rfl) (Nat.le_of_ble_eq_true rfl) (Nat.le_of_ble_eq_true rfl) dX0_init_55 (fun a5 k5 H hK hP hD hS => ?_)
  have hP : va_P D vwCl [(h0, .inr (0, [.int 0, .int 0, .ref a1, .ref a2, .ref a3, .int 0, .ref a4, .null, .null, .int 0])), (a1, .inl (k1, 40, .inl (fun _ => 0))), (a2, .inl (k2, 40, .inl (fun _ => 0))), (a3, .inl (k3, 256, .inl (fun _ => 0))), (a4, .inl (k4, 8, .inl (fun _ => 0))), (a5, .inl (k5, 8, .inl (fun _ => 0)))] H := hP
  have hD : va_D A [(h0, .inr (0, [.int 0, .int 0, .ref a1, .ref a2, .ref a3, .int 0, .ref a4, .null, .null, .int 0])), (a1, .inl (k1, 40, .inl (fun _ => 0))), (a2, .inl (k2, 40, .inl (fun _ => 0))), (a3, .inl (k3, 256, .inl (fun _ => 0))), (a4, .inl (k4, 8, .inl (fun _ => 0))), (a5, .inl (k5, 8, .inl (fun _ => 0)))] := hD
  have hK : va_K D vwCl [(k1, .int), (k2, .boolean), (k3, .int), (k4, .int), (k5, .int)] s := hK
  refine W.widen (k := 5) (n := 352) (Nat.le_of_ble_eq_true rfl) (Nat.le_of_ble_eq_true rfl) ?_
  refine va_putF (D := D) (ci := 0) (v := .ref a5) (ty := .array .int) (C := RX0) (T := TX0) (N := 10) hx hb hts hin tyX0 tyX0_ok nmX0 hown hK hP hD hS 0 rfl rfl 7 (by decide) (hts (.fieldLink RX0 33 "SmudgedStar" "stubbornnessLeft" "[I") (List.mem_of_getElem? (i := 13) rfl)) (fun _ h9 => h9) rfl hin2 rfl (by decide +kernel) rfl rfl (Nat.le_of_ble_eq_true rfl) dX0_init_57 (fun H locs hP hD hS => ?_)
  have hP : va_P D vwCl [(h0, .inr (0, [.int 0, .int 0, .ref a1, .ref a2, .ref a3, .int 0, .ref a4, .ref a5, .null, .int 0])), (a1, .inl (k1, 40, .inl (fun _ => 0))), (a2, .inl (k2, 40, .inl (fun _ => 0))), (a3, .inl (k3, 256, .inl (fun _ => 0))), (a4, .inl (k4, 8, .inl (fun _ => 0))), (a5, .inl (k5, 8, .inl (fun _ => 0)))] H := hP
  have hD : va_D A [(h0, .inr (0, [.int 0, .int 0, .ref a1, .ref a2, .ref a3, .int 0, .ref a4, .ref a5, .null, .int 0])), (a1, .inl (k1, 40, .inl (fun _ => 0))), (a2, .inl (k2, 40, .inl (fun _ => 0))), (a3, .inl (k3, 256, .inl (fun _ => 0))), (a4, .inl (k4, 8, .inl (fun _ => 0))), (a5, .inl (k5, 8, .inl (fun _ => 0)))] := hD
  refine lv_aload_n hx hb dX0_init_60 rfl (lv_at hl 0 rfl) ?_
  refine lv_bipush (v := 8) hx hb dX0_init_61 (by decide) ?_
  refine va_newa (atype := .int) (ty := .int) (N' := 8) (a0 := (8, .inl (fun _ => 0))) hx hb (hts (.arrayClass .int) (List.mem_of_getElem? (i := 6) rfl)) rfl hK hP hD hS hA (fun _ => rfl) (by decide) rfl (Nat.le_of_ble_eq_true rfl) (Nat.le_of_ble_eq_true rfl) (Nat.le_of_ble_eq_true rfl) dX0_init_63 (fun a6 k6 H hK hP hD hS => ?_)
  have hP : va_P D vwCl [(h0, .inr (0, [.int 0, .int 0, .ref a1, .ref a2, .ref a3, .int 0, .ref a4, .ref a5, .null, .int 0])), (a1, .inl (k1, 40, .inl (fun _ => 0))), (a2, .inl (k2, 40, .inl (fun _ => 0))), (a3, .inl (k3, 256, .inl (fun _ => 0))), (a4, .inl (k4, 8, .inl (fun _ => 0))), (a5, .inl (k5, 8, .inl (fun _ => 0))), (a6, .inl (k6, 8, .inl (fun _ => 0)))] H := hP
  have hD : va_D A [(h0, .inr (0, [.int 0, .int 0, .ref a1, .ref a2, .ref a3, .int 0, .ref a4, .ref a5, .null, .int 0])), (a1, .inl (k1, 40, .inl (fun _ => 0))), (a2, .inl (k2, 40, .inl (fun _ => 0))), (a3, .inl (k3, 256, .inl (fun _ => 0))), (a4, .inl (k4, 8, .inl (fun _ => 0))), (a5, .inl (k5, 8, .inl (fun _ => 0))), (a6, .inl (k6, 8, .inl (fun _ => 0)))] := hD
  have hK : va_K D vwCl [(k1, .int), (k2, .boolean), (k3, .int), (k4, .int), (k5, .int), (k6, .int)] s := hK
  refine W.widen (k := 6) (n := 360) (Nat.le_of_ble_eq_true rfl) (Nat.le_of_ble_eq_true rfl) ?_
  refine va_putF (D := D) (ci := 0) (v := .ref a6) (ty := .array .int) (C := RX0) (T := TX0) (N := 10) hx hb hts hin tyX0 tyX0_ok nmX0 hown hK hP hD hS 0 rfl rfl 8 (by decide) (hts (.fieldLink RX0 36 "SmudgedStar" "stubbornnessAtFirst" "[I") (List.mem_of_getElem? (i := 14) rfl)) (fun _ h9 => h9) rfl hin2 rfl (by decide +kernel) rfl rfl (Nat.le_of_ble_eq_true rfl) dX0_init_65 (fun H locs hP hD hS => ?_)
  have hP : va_P D vwCl [(h0, .inr (0, [.int 0, .int 0, .ref a1, .ref a2, .ref a3, .int 0, .ref a4, .ref a5, .ref a6, .int 0])), (a1, .inl (k1, 40, .inl (fun _ => 0))), (a2, .inl (k2, 40, .inl (fun _ => 0))), (a3, .inl (k3, 256, .inl (fun _ => 0))), (a4, .inl (k4, 8, .inl (fun _ => 0))), (a5, .inl (k5, 8, .inl (fun _ => 0))), (a6, .inl (k6, 8, .inl (fun _ => 0)))] H := hP
  have hD : va_D A [(h0, .inr (0, [.int 0, .int 0, .ref a1, .ref a2, .ref a3, .int 0, .ref a4, .ref a5, .ref a6, .int 0])), (a1, .inl (k1, 40, .inl (fun _ => 0))), (a2, .inl (k2, 40, .inl (fun _ => 0))), (a3, .inl (k3, 256, .inl (fun _ => 0))), (a4, .inl (k4, 8, .inl (fun _ => 0))), (a5, .inl (k5, 8, .inl (fun _ => 0))), (a6, .inl (k6, 8, .inl (fun _ => 0)))] := hD
  refine lv_aload_n hx hb dX0_init_68 rfl (lv_at hl 0 rfl) ?_
  refine lv_iconst (v := 0) hx hb dX0_init_69 (by decide) ?_
  refine va_put (D := D) (ci := 0) (v := .int 0) (ty := .int) (C := RX0) (T := TX0) (N := 10) hx hb hts hin tyX0 tyX0_ok nmX0 hown hK hP hD hS 0 rfl rfl 9 (by decide) (hts (.fieldLink RX0 39 "SmudgedStar" "mindsChanged" "I") (List.mem_of_getElem? (i := 15) rfl)) (fun _ h9 => h9) rfl (by decide +kernel) rfl rfl (Nat.le_of_ble_eq_true rfl) dX0_init_70 (fun H locs hP hD hS => ?_)
  have hP : va_P D vwCl [(h0, .inr (0, [.int 0, .int 0, .ref a1, .ref a2, .ref a3, .int 0, .ref a4, .ref a5, .ref a6, .int 0])), (a1, .inl (k1, 40, .inl (fun _ => 0))), (a2, .inl (k2, 40, .inl (fun _ => 0))), (a3, .inl (k3, 256, .inl (fun _ => 0))), (a4, .inl (k4, 8, .inl (fun _ => 0))), (a5, .inl (k5, 8, .inl (fun _ => 0))), (a6, .inl (k6, 8, .inl (fun _ => 0)))] H := hP
  have hD : va_D A [(h0, .inr (0, [.int 0, .int 0, .ref a1, .ref a2, .ref a3, .int 0, .ref a4, .ref a5, .ref a6, .int 0])), (a1, .inl (k1, 40, .inl (fun _ => 0))), (a2, .inl (k2, 40, .inl (fun _ => 0))), (a3, .inl (k3, 256, .inl (fun _ => 0))), (a4, .inl (k4, 8, .inl (fun _ => 0))), (a5, .inl (k5, 8, .inl (fun _ => 0))), (a6, .inl (k6, 8, .inl (fun _ => 0)))] := hD
  have e2 : k3 = k1 := ty_uniq hK (i := 2) (j := 0) rfl rfl
  have e3 : k4 = k1 := ty_uniq hK (i := 3) (j := 0) rfl rfl
  have e4 : k5 = k1 := ty_uniq hK (i := 4) (j := 0) rfl rfl
  have e5 : k6 = k1 := ty_uniq hK (i := 5) (j := 0) rfl rfl
  rw [e2, e3, e4, e5] at hP hD
  have hP := hP.sub (ws' := _) [0, 1, 2, 3, 4, 5, 6] rfl
  have hD := hD.sub (ws' := [(h0, .inr (0, [.int 0, .int 0, .ref a1, .ref a2, .ref a3, .int 0, .ref a4, .ref a5, .ref a6, .int 0])), (a1, .inl (k1, 40, .inl (fun _ => 0))), (a2, .inl (k2, 40, .inl (fun _ => 0))), (a3, .inl (k1, 256, .inl (fun _ => 0))), (a4, .inl (k1, 8, .inl (fun _ => 0))), (a5, .inl (k1, 8, .inl (fun _ => 0))), (a6, .inl (k1, 8, .inl (fun _ => 0)))]) [0, 1, 2, 3, 4, 5, 6] (by decide) rfl
  exact W.vret hx hb hr (fun t9 ht9 hW9 => ⟨⟨(), rfl, trivial, (fun k => ([h0, a1, a2, a3, a4, a5, a6] : List Nat).getD k 0), k1, k2, rfl, by show va_P D vwCl _ t9.heap; rw [ht9]; exact hP, va_K.moved hW9.alike (hK.sub [0, 1] rfl), hD⟩, hS.F ht9⟩) hS.2.2 dX0_init_73
