/-! the hand-made quarrel: contracts of its methods that write -/
set_option maxHeartbeats 4000000 in
set_option maxRecDepth 100000 in
theorem w_S_strike (l : Launch) {D : va_G} {cI cR : ClassId} {r nr ar : Nat → Nat} {tc nc ac : Nat} {ch : Int32} {U : Nat → Int32} {Z : Nat → Bool} {B L F : Nat → Int32} {H : Heap} (hP : va_P D vwCl (wS cI cR r nr ar tc nc ac ch U Z B L F) H) (htc : tc ≤ 8) (hnc : nc ≤ 40) (hac : ac ≤ 8) (hD0 : va_D (fun _ => True) (wS cI cR r nr ar tc nc ac ch U Z B L F)) {t : Nat} (ht : t < nc) : Met l yX1_strike wsX1_strike ({ frames := 1, cells := 41, slots := 1641, locals := 23 }) (va_Pc [.ref (r 0), .int (nI t)] (rdo D vwCl (tyS cI cR) H)) (va_Qv (fun _ : Unit => True) (fun _ t9 => ∃ q, va_P D vwCl (wS cI cR (rr r 1 q) (shN nr t) ar tc (nc - 1) ac ch (shf U t (nc - 1)) (shf Z t (nc - 1)) B L F) t9.heap ∧ va_D (va_A (wS cI cR r nr ar tc nc ac ch U Z B L F) H.size) (wS cI cR (rr r 1 q) (shN nr t) ar tc (nc - 1) ac ch (shf U t (nc - 1)) (shf Z t (nc - 1)) B L F)) (va_A (wS cI cR r nr ar tc nc ac ch U Z B L F) H.size)) 41 1641 (va_A (wS cI cR r nr ar tc nc ac ch U Z B L F) H.size) := by
  refine Met.ofW (cc := cX1_strike) (maxL := 4) (ret := none) (by decide) rfl ?_
  intro p e s m args below meth c s₁ B9 hml hv
  obtain ⟨rfl, hH, hK, hov⟩ := hv
  subst hH
  have hx := B9.exec
  have hb := B9.bytes
  have hr := B9.returns
  have hts := atoms_spec (ws := wsX1_strike) B9.pre
  have hown : s.vm.findClass RX1 = some m.cls := findClass_of_methodNamed B9.named
  have hlocks := B9.notSynchronized
  have hin : ∀ w ∈ u_ws RX1 TX1 4, w ∈ wsX1_strike := fun w h => List.mem_cons_of_mem _ (List.mem_append_right _ h)
  have hl := lv_entry ([.ref (r 0), .int (nI t)]) (n := 4) (Nat.le_of_ble_eq_true rfl)
  rw [lg_entry_eq]
  generalize (lg_sl ([.ref (r 0), .int (nI t)]) ++ List.replicate (4 - (lg_sl ([.ref (r 0), .int (nI t)])).length) Slot.unset).toArray = ls at hl ⊢
  have hl : lv_has ls 4 [(0, .ref (r 0)), (1, .int (nI t))] := hl
  have hD := hD0.self (sz := s.heap.size)
  generalize hAe : va_A (wS cI cR r nr ar tc nc ac ch U Z B L F) s.heap.size = A at hD ⊢
  have hA : ∀ q : Nat, s.heap.size ≤ q → A q := fun q h => by rw [← hAe]; exact Or.inr h
  have hS : va_S A s.heap s.heap [] := va_S.rf
  refine lv_iconst (v := 0) hx hb dX1_strike_0 (by decide) ?_
  refine ra_new hx hb hown (hts (.classLink RX1 7 "[I") (List.mem_of_getElem? (i := 1) rfl)) hov hK hP hD hS hA 1 rfl (n := 0) nI_0.symm (by decide) (Nat.le_of_ble_eq_true rfl) (Nat.le_of_ble_eq_true rfl) dX1_strike_1 (fun q H hq hP hD hS hold => ?_)
  have hP : va_P D vwCl (wS cI cR r nr ar tc nc ac ch U Z B L F ++ [(q, .inl (cR, 0, rf (shN nr t)))]) H := P_lastq hP (fun j hj => absurd hj (Nat.not_lt_zero j))
  have hD : va_D A (wS cI cR r nr ar tc nc ac ch U Z B L F ++ [(q, .inl (cR, 0, rf (shN nr t)))]) := D_last hD
  refine lv_astore_n (lv' := [(2, .ref q), (0, .ref (r 0)), (1, .int (nI t))]) hx hb dX1_strike_4 rfl hl (by decide) rfl (fun ls hl => ?_)
  refine lv_iconst (v := 0) hx hb dX1_strike_5 (by decide) ?_
  refine lv_istore_n (lv' := [(3, .int 0), (2, .ref q), (0, .ref (r 0)), (1, .int (nI t))]) hx hb dX1_strike_6 rfl hl (by decide) rfl (fun ls hl => ?_)
  refine W.widen (k := 1 + 0) (n := 41 * 0) (by decide) (by decide) ?_
  refine w_loopG (N := nc) (I := fun i ls H locs => ∃ q, s.heap.size ≤ q ∧ lv_has ls 4 [(3, .int (nI i)), (2, .ref q), (0, .ref (r 0)), (1, .int (nI t))] ∧ va_P D vwCl (wS cI cR r nr ar tc nc ac ch U Z B L F ++ [(q, .inl (cR, cutl t i, rf (shN nr t)))]) H ∧ va_D A (wS cI cR r nr ar tc nc ac ch U Z B L F ++ [(q, .inl (cR, cutl t i, rf (shN nr t)))]) ∧ va_S A s.heap H locs) (cf := fun i => 1 + i) (sf := fun i => 41 * i) 0 (Nat.zero_le _) ⟨q, hq, lv_sub hl [0, 1, 2, 3] rfl, by rw [cutl_0]; exact hP, by rw [cutl_0]; exact hD, hS⟩ (fun i ls H locs hi hi0 hI ih => ?_)
  obtain ⟨q, hq, hl, hP, hD, hS⟩ := hI
  have hPw : va_P D vwCl (wS cI cR r nr ar tc nc ac ch U Z B L F) H := P_l hP
  have hcl := cutl_le t i
  refine lv_iload_n hx hb dX1_strike_7 rfl (lv_at hl 0 rfl) ?_
  refine lv_aload_n hx hb dX1_strike_8 rfl (lv_at hl 2 rfl) ?_
  refine va_get (D := D) (ci := 1) (v := .ref (r 1)) (C := RX1) (T := TX1) (N := 4) hx hb hts hin hown hK hPw 0 rfl rfl 1 (by decide) (hts (.fieldLink RX1 9 "SmudgedStarLaw$Sim" "nights" "[[I") (List.mem_of_getElem? (i := 2) rfl)) (fun _ h9 => h9) rfl dX1_strike_9 ?_
  refine va_alen (v := nI nc) hx hb hK hPw 1 1 rfl rfl rfl dX1_strike_12 ?_
  refine lv_icmp_ge (tgt := 38) hx hb dX1_strike_13 (by decide) (fun c13 => ?_) (fun c13 => ?_)
  · have hie : i = nc := gd_ge_t (by omega) hi c13
    rw [hie, cutl_e ht] at hP hD
    refine lv_aload_n hx hb dX1_strike_38 rfl (lv_at hl 2 rfl) ?_
    refine lv_aload_n hx hb dX1_strike_39 rfl (lv_at hl 1 rfl) ?_
    refine va_put (D := D) (ci := 1) (v := .ref q) (ty := .array (.array .int)) (C := RX1) (T := TX1) (N := 4) hx hb hts hin tyX1 tyX1_ok nmX1 hown hK hP hD hS 0 rfl rfl 1 (by decide) (hts (.fieldLink RX1 9 "SmudgedStarLaw$Sim" "nights" "[[I") (List.mem_of_getElem? (i := 2) rfl)) (fun _ h9 => h9) rfl (by decide +kernel) rfl rfl (Nat.le_of_ble_eq_true rfl) dX1_strike_40 (fun H locs hP hD hS => ?_)
    obtain ⟨hP, hD⟩ := re_PD (w' := wS cI cR (rr r 1 q) (shN nr t) ar tc (nc - 1) ac ch (shf U t (nc - 1)) (shf Z t (nc - 1)) B L F) (gC nc ac t) hP hD (cut_g ht) (fun i j h1 h2 => cut_i ht i j (by rw [wS_len] at h1; exact h1) (by rw [wS_len] at h2; exact h2))
    refine W.widen (k := 41) (n := 1641) (by omega) (by omega) ?_
    exact W.vret hx hb hr (fun t9 ht9 hW9 => ⟨⟨(), rfl, trivial, q, by rw [ht9]; exact hP, hD⟩, hS.F ht9⟩) hS.2.2 dX1_strike_43
  · have hlt : i < nc := gd_ge_f hi c13
    refine lv_iload_n hx hb dX1_strike_16 rfl (lv_at hl 0 rfl) ?_
    refine lv_iload_n hx hb dX1_strike_17 rfl (lv_at hl 3 rfl) ?_
    refine lv_icmp_eq (tgt := 32) hx hb dX1_strike_18 (by decide) (fun c18 => ?_) (fun c18 => ?_)
    · have hit : i = t := (nI_eq (by omega) (by omega)).mp c18
      refine lv_iinc (v := nI (i + 1)) (lv' := [(3, .int (nI (i + 1))), (2, .ref q), (0, .ref (r 0)), (1, .int (nI t))]) hx hb dX1_strike_32 hl (k := 0) rfl (nI_1 _) (by decide) rfl (fun ls hl => ?_)
      refine lv_goto (tgt := 7) hx hb dX1_strike_35 (by decide) ?_
      have hl := lv_sub (l' := [(3, .int (nI (i + 1))), (2, .ref q), (0, .ref (r 0)), (1, .int (nI t))]) hl [0, 1, 2, 3] rfl
      refine W.widen (k := 1 + (i + 1)) (n := 41 * (i + 1)) (by omega) (by omega) ?_
      subst hit
      exact ih ls _ _ hlt ⟨q, hq, hl, by rw [cutl_t]; exact hP, by rw [cutl_t]; exact hD, hS⟩
    · have hit : i ≠ t := fun w => c18 (by rw [w])
      refine lv_aload_n hx hb dX1_strike_21 rfl (lv_at hl 1 rfl) ?_
      refine lv_aload_n hx hb dX1_strike_22 rfl (lv_at hl 2 rfl) ?_
      refine va_get (D := D) (ci := 1) (v := .ref (r 1)) (C := RX1) (T := TX1) (N := 4) hx hb hts hin hown hK hPw 0 rfl rfl 1 (by decide) (hts (.fieldLink RX1 9 "SmudgedStarLaw$Sim" "nights" "[[I") (List.mem_of_getElem? (i := 2) rfl)) (fun _ h9 => h9) rfl dX1_strike_23 ?_
      refine lv_iload_n hx hb dX1_strike_26 rfl (lv_at hl 0 rfl) ?_
      refine ra_ld hx hb hK hPw 1 1 rfl rfl (j := i) rfl (hlt) (by omega) dX1_strike_27 ?_
      have hS0 := hS
      have hF : ∀ z : Nat, H.size ≤ z → A z := fun z h => hA z (Nat.le_trans hS.1 h)
      have hq1 : H[q]? = _ := hP _ _ (last_at _ _)
      have hf : ∀ j, j < cutl t i → ∃ (nv : Nat) (fv : Nat → Int32), H[shN nr t j]? = some (vp_cell cI (nv, .inl fv)) := fun j hj => by
        unfold shN
        split
        · exact ⟨2, _, hPw _ _ (wS_n (by omega))⟩
        · exact ⟨2, _, hPw _ _ (wS_n (by omega))⟩
      refine va_callr (va_runS (As := [.ref q, .ref (nr i)]) (rest := []) ⟨hx, hb, hml, hown, hts⟩ (w_S_with l (P_two hq1 (hPw _ _ (wS_n hlt))) hf (by omega)) (va_cwS 2 hts gX1_strike_X1_with rfl rfl rfl hdX1_with ⟨Nat.le_of_ble_eq_true rfl, Nat.le_of_ble_eq_true rfl⟩) ⟨rdo_blind, rdo_pre hK hov⟩ rfl rfl hl.1 rfl (lv_room (Nat.le_of_ble_eq_true rfl)) dX1_strike_28 ⟨by show 1 + i + 1 ≤ 41; omega, by show 41 * i + 41 ≤ 1641; omega⟩) hS (fun z _ h => hF z h) hF (fun u q9 t9 H1 locs ht9 hvm9 hw9 hB9 hz1 hk1 hS => ?_)
      obtain ⟨hq9a, hP9⟩ := hB9
      rw [ht9] at hP9
      have hk2 : ∀ z : Nat, z < H.size → H1[z]? = H[z]? := fun z h => hk1 z h (Nat.not_le.mpr h)
      have hq9 : s.heap.size ≤ q9 := Nat.le_trans hS0.1 hq9a
      have hD : va_D A (wS cI cR r nr ar tc nc ac ch U Z B L F ++ [(q9, .inl (cR, cutl t i + 1, rf (shN nr t)))]) := D_last (D_push (e := .inr (0, [])) (D_lA hD) hPw hq9a (hF _ hq9a))
      have hP : va_P D vwCl (wS cI cR r nr ar tc nc ac ch U Z B L F ++ [(q9, .inl (cR, cutl t i + 1, rf (shN nr t)))]) H1 := P_lastq ((grow_P hPw hk2).app hP9) (fun j hj => congrArg some (shN_up hit j))
      generalize H1 = H at hP hS ⊢
      refine lv_astore_n (lv' := [(2, .ref q9), (3, .int (nI i)), (0, .ref (r 0)), (1, .int (nI t))]) hx hb dX1_strike_31 rfl hl (by decide) rfl (fun ls hl => ?_)
      refine lv_iinc (v := nI (i + 1)) (lv' := [(3, .int (nI (i + 1))), (2, .ref q9), (0, .ref (r 0)), (1, .int (nI t))]) hx hb dX1_strike_32 hl (k := 1) rfl (nI_1 _) (by decide) rfl (fun ls hl => ?_)
      refine lv_goto (tgt := 7) hx hb dX1_strike_35 (by decide) ?_
      have hl := lv_sub (l' := [(3, .int (nI (i + 1))), (2, .ref q9), (0, .ref (r 0)), (1, .int (nI t))]) hl [0, 1, 2, 3] rfl
      refine W.widen (k := 1 + (i + 1)) (n := 41 * (i + 1)) (by omega) (by omega) ?_
      exact ih ls _ _ hlt ⟨q9, hq9, hl, by rw [cutl_s hit]; exact hP, by rw [cutl_s hit]; exact hD, hS⟩
set_option maxHeartbeats 4000000 in
set_option maxRecDepth 100000 in
theorem w_S_write (l : Launch) {D : va_G} {cI cR : ClassId} {r nr ar : Nat → Nat} {tc nc ac : Nat} {ch : Int32} {U : Nat → Int32} {Z : Nat → Bool} {B L F : Nat → Int32} {H : Heap} (hP : va_P D vwCl (wS cI cR r nr ar tc nc ac ch U Z B L F) H) (htc : tc ≤ 8) (hnc : nc ≤ 40) (hac : ac ≤ 8) (hD0 : va_D (fun _ => True) (wS cI cR r nr ar tc nc ac ch U Z B L F)) (hU : ∀ j, ∃ k, k < pw tc ∧ U j = nI k) (hB : ∀ a, ∃ k, k < pw tc ∧ B a = nI k) {k : Nat} {z : Bool} (hk : k < pw tc) (h40 : nc < 40) : Met l yX1_write wsX1_write ({ frames := 4, cells := 300, slots := 66000, locals := 96 }) (va_Pc [.ref (r 0), .int (nI k), .int (bI z)] (rdo D vwCl (tyS cI cR) H)) (va_Qi (fun r9 (_ : Unit) => r9 = nI (ct (sC B L (nI k) z ((spx (fun j => zz (upd U nc (nI k)) (updB Z nc z) (nc + 1) j) (pw tc)).1)) ac)) (fun _ t9 => ∃ q b, va_P D vwCl (wS cI cR (rr r 1 q) (va_up nr nc b) ar tc (nc + 1) ac (ch + nI (ct (sC B L (nI k) z ((spx (fun j => zz (upd U nc (nI k)) (updB Z nc z) (nc + 1) j) (pw tc)).1)) ac)) (upd U nc (nI k)) (updB Z nc z) (mrg (sB B L (nI k) z ((spx (fun j => zz (upd U nc (nI k)) (updB Z nc z) (nc + 1) j) (pw tc)).1)) B ac) (mrg (sL B L F (nI k) z ((spx (fun j => zz (upd U nc (nI k)) (updB Z nc z) (nc + 1) j) (pw tc)).1)) L ac) F) t9.heap ∧ va_D (va_A (wS cI cR r nr ar tc nc ac ch U Z B L F) H.size) (wS cI cR (rr r 1 q) (va_up nr nc b) ar tc (nc + 1) ac (ch + nI (ct (sC B L (nI k) z ((spx (fun j => zz (upd U nc (nI k)) (updB Z nc z) (nc + 1) j) (pw tc)).1)) ac)) (upd U nc (nI k)) (updB Z nc z) (mrg (sB B L (nI k) z ((spx (fun j => zz (upd U nc (nI k)) (updB Z nc z) (nc + 1) j) (pw tc)).1)) B ac) (mrg (sL B L F (nI k) z ((spx (fun j => zz (upd U nc (nI k)) (updB Z nc z) (nc + 1) j) (pw tc)).1)) L ac) F)) (va_A (wS cI cR r nr ar tc nc ac ch U Z B L F) H.size)) 300 66000 (va_A (wS cI cR r nr ar tc nc ac ch U Z B L F) H.size) := by
  refine Met.ofW (cc := cX1_write) (maxL := 9) (ret := (some .int)) (by decide) rfl ?_
  intro p e s m args below meth c s₁ B9 hml hv
  obtain ⟨rfl, hH, hK, hov⟩ := hv
  subst hH
  have hx := B9.exec
  have hb := B9.bytes
  have hr := B9.returns
  have hts := atoms_spec (ws := wsX1_write) B9.pre
  have hown : s.vm.findClass RX1 = some m.cls := findClass_of_methodNamed B9.named
  have hlocks := B9.notSynchronized
  have hin : ∀ w ∈ u_ws RX1 TX1 4, w ∈ wsX1_write := fun w h => List.mem_cons_of_mem _ (List.mem_append_right _ h)
  have hl := lv_entry ([.ref (r 0), .int (nI k), .int (bI z)]) (n := 9) (Nat.le_of_ble_eq_true rfl)
  rw [lg_entry_eq]
  generalize (lg_sl ([.ref (r 0), .int (nI k), .int (bI z)]) ++ List.replicate (9 - (lg_sl ([.ref (r 0), .int (nI k), .int (bI z)])).length) Slot.unset).toArray = ls at hl ⊢
  have hl : lv_has ls 9 [(0, .ref (r 0)), (1, .int (nI k)), (2, .int (bI z))] := hl
  have hD := hD0.self (sz := s.heap.size)
  generalize hAe : va_A (wS cI cR r nr ar tc nc ac ch U Z B L F) s.heap.size = A at hD ⊢
  have hA : ∀ q : Nat, s.heap.size ≤ q → A q := fun q h => by rw [← hAe]; exact Or.inr h
  have hS : va_S A s.heap s.heap [] := va_S.rf
  have hpw := pw_in htc
  have hPw := hP
  refine lv_aload_n hx hb dX1_write_0 rfl (lv_at hl 0 rfl) ?_
  refine lv_aload_n hx hb dX1_write_1 rfl (lv_at hl 0 rfl) ?_
  refine va_get (D := D) (ci := 1) (v := .ref (r 1)) (C := RX1) (T := TX1) (N := 4) hx hb hts hin hown hK hP 0 rfl rfl 1 (by decide) (hts (.fieldLink RX1 9 "SmudgedStarLaw$Sim" "nights" "[[I") (List.mem_of_getElem? (i := 1) rfl)) (fun _ h9 => h9) rfl dX1_write_2 ?_
  refine lv_iconst (v := 2) hx hb dX1_write_5 (by decide) ?_
  refine va_newa (atype := .int) (ty := .int) (N' := 2) (a0 := (2, .inl (fun _ => 0))) hx hb (hts (.arrayClass .int) (List.mem_of_getElem? (i := 2) rfl)) rfl hK hP hD hS hA (fun _ => rfl) (by decide) rfl (Nat.le_of_ble_eq_true rfl) (Nat.le_of_ble_eq_true rfl) (Nat.le_of_ble_eq_true rfl) dX1_write_6 (fun b k1 H hK1 hP hD hS => ?_)
  have e1 : cI = k1 := ty_uniq hK1 (i := 0) (j := 2) rfl rfl
  subst e1
  have hPw : va_P D vwCl (wS cI cR r nr ar tc nc ac ch U Z B L F) H := P_l hP
  refine lv_dup hx hb dX1_write_8 rfl ?_
  refine lv_iconst (v := 0) hx hb dX1_write_9 (by decide) ?_
  refine lv_iload_n hx hb dX1_write_10 rfl (lv_at hl 1 rfl) ?_
  refine il_st hx hb hK hP hD hS 0 rfl (j := 0) nI_0.symm (by decide) (by decide) dX1_write_11 (fun H locs hP hD hS => ?_)
  have hPw : va_P D vwCl (wS cI cR r nr ar tc nc ac ch U Z B L F) H := P_l hP
  refine lv_dup hx hb dX1_write_12 rfl ?_
  refine lv_iconst (v := 1) hx hb dX1_write_13 (by decide) ?_
  refine lv_iload_n hx hb dX1_write_14 rfl (lv_at hl 2 rfl) ?_
  refine lv_bb (t0 := 22) hx hb dX1_write_15 dX1_write_18 dX1_write_19 dX1_write_22 (by decide) (by decide) ?_
  refine il_st hx hb hK hP hD hS 0 rfl (j := 1) rfl (by decide) (by decide) dX1_write_23 (fun H locs hP hD hS => ?_)
  have hPw : va_P D vwCl (wS cI cR r nr ar tc nc ac ch U Z B L F) H := P_l hP
  have hP : va_P D vwCl (wS cI cR r nr ar tc nc ac ch U Z B L F ++ [(b, .inl (cI, 2, .inl (r2 (nI k) (bI z))))]) H := P_lasti hP (fun j hj => r2_of hj)
  have hD : va_D A (wS cI cR r nr ar tc nc ac ch U Z B L F ++ [(b, .inl (cI, 2, .inl (r2 (nI k) (bI z))))]) := D_last hD
  have hF : ∀ z : Nat, H.size ≤ z → A z := fun z h => hA z (Nat.le_trans hS.1 h)
  have hf : ∀ j, j < nc → ∃ (nv : Nat) (fv : Nat → Int32), H[nr j]? = some (vp_cell cI (nv, .inl fv)) := fun j hj => ⟨2, _, hPw _ _ (wS_n hj)⟩
  refine va_callr (va_runS (As := [.ref (r 1), .ref b]) (rest := [.ref (r 0)]) ⟨hx, hb, hml, hown, hts⟩ (w_S_with l (P_two (hPw 1 _ rfl) (hP _ _ (last_at _ _))) hf hnc) (va_cwS 2 hts gX1_write_X1_with rfl rfl rfl hdX1_with ⟨Nat.le_of_ble_eq_true rfl, Nat.le_of_ble_eq_true rfl⟩) ⟨rdo_blind, rdo_pre hK hov⟩ rfl rfl hl.1 rfl (lv_room (Nat.le_of_ble_eq_true rfl)) dX1_write_24 ⟨Nat.le_of_ble_eq_true rfl, Nat.le_of_ble_eq_true rfl⟩) hS (fun z _ h => hF z h) hF (fun u q t9 H1 locs ht9 hvm9 hw9 hB9 hz1 hk1 hS => ?_)
  obtain ⟨hq9a, hP9⟩ := hB9
  rw [ht9] at hP9
  have hk2 : ∀ z : Nat, z < H.size → H1[z]? = H[z]? := fun z h => hk1 z h (Nat.not_le.mpr h)
  have hD := D_push (e := .inl (cR, nc + 1, rf (va_up nr nc b))) hD hP hq9a (hF _ hq9a)
  have hP := (grow_P hP hk2).app hP9
  rw [List.append_assoc] at hP hD
  generalize H1 = H at hP hS ⊢
  refine va_put (D := D) (ci := 1) (v := .ref q) (ty := .array (.array .int)) (C := RX1) (T := TX1) (N := 4) hx hb hts hin tyX1 tyX1_ok nmX1 hown hK hP hD hS 0 rfl rfl 1 (by decide) (hts (.fieldLink RX1 9 "SmudgedStarLaw$Sim" "nights" "[[I") (List.mem_of_getElem? (i := 1) rfl)) (fun _ h9 => h9) rfl (by decide +kernel) rfl rfl (Nat.le_of_ble_eq_true rfl) dX1_write_27 (fun H locs hP hD hS => ?_)
  obtain ⟨hP, hD⟩ := re_PD (w' := wS cI cR (rr r 1 q) (va_up nr nc b) ar tc (nc + 1) ac ch (upd U nc (nI k)) (updB Z nc z) B L F) (gN nc ac) hP hD pushN_g (fun i j h1 h2 => pushN_i i j (by rw [wS_len] at h1; exact h1) (by rw [wS_len] at h2; exact h2))
  have hU1 : ∀ j, ∃ k', k' < pw tc ∧ (upd U nc (nI k)) j = nI k' := hU_upd hU hk
  have hl : lv_has ls 9 [(0, .ref ((rr r 1 q) 0)), (1, .int (nI k)), (2, .int (bI z))] := hl
  refine lv_aload_n hx hb dX1_write_30 rfl (lv_at hl 0 rfl) ?_
  refine lv_aload_n hx hb dX1_write_31 rfl (lv_at hl 0 rfl) ?_
  have hF : ∀ z : Nat, H.size ≤ z → A z := fun z h => hA z (Nat.le_trans hS.1 h)
  refine va_callr (va_runV (As := []) (rest := [.ref ((rr r 1 q) 0)]) ⟨hx, hb, hml, hown, hts⟩ (w_S_explanations l hP htc (by omega) hac hU1) (cwV 0 hts gX1_write_X1_explanations rfl rfl rfl hdX1_explanations ⟨Nat.le_of_ble_eq_true rfl, Nat.le_of_ble_eq_true rfl⟩) ⟨rd_blind, (va_recv hK hP (ci := 1) (q0 := 0) rfl rfl), rd_pre hK⟩ rfl rfl hl.1 rfl (lv_room (Nat.le_of_ble_eq_true rfl)) dX1_write_32 ⟨Nat.le_of_ble_eq_true rfl, Nat.le_of_ble_eq_true rfl⟩) hS (fun z _ h => hF z h) hF (fun u q2 t9 H1 locs ht9 hvm9 hw9 hB9 hz1 hk1 hS => ?_)
  obtain ⟨hq2, hE⟩ := hB9
  rw [ht9] at hE
  have hP := grow_P hP (fun z h => hk1 z h (Nat.not_le.mpr h))
  generalize H1 = H at hP hS hE ⊢
  refine pcV_i (As := [.ref q2]) (rest := []) ⟨hx, hb, hml, hown, hts⟩ (g_S_simplest l hP htc (by omega) hac hE (by have := ct_le (fun k_1 => zz (upd U nc (nI k)) (updB Z nc z) (nc + 1) k_1) (pw tc); omega) (fun j hj => (el_in hj).1)) (cwV 1 hts gX1_write_X1_simplest rfl rfl rfl hdX1_simplest ⟨Nat.le_of_ble_eq_true rfl, Nat.le_of_ble_eq_true rfl⟩) (va_recv hK hP (ci := 1) (q0 := 0) rfl rfl) hK rfl hl.1 (Nat.le_of_ble_eq_true rfl) rfl dX1_write_35 ⟨Nat.le_of_ble_eq_true rfl, Nat.le_of_ble_eq_true rfl⟩ ?_
  refine lv_cst (y := (spx (fun j => zz (upd U nc (nI k)) (updB Z nc z) (nc + 1) j) (pw tc)).1) (sdn_spx _ hpw.2) ?_
  refine lv_istore_n (lv' := [(3, .int ((spx (fun j => zz (upd U nc (nI k)) (updB Z nc z) (nc + 1) j) (pw tc)).1)), (0, .ref ((rr r 1 q) 0)), (1, .int (nI k)), (2, .int (bI z))]) hx hb dX1_write_38 rfl hl (by decide) rfl (fun ls hl => ?_)
  refine lv_iconst (v := 0) hx hb dX1_write_39 (by decide) ?_
  refine lv_istore (lv' := [(4, .int 0), (3, .int ((spx (fun j => zz (upd U nc (nI k)) (updB Z nc z) (nc + 1) j) (pw tc)).1)), (0, .ref ((rr r 1 q) 0)), (1, .int (nI k)), (2, .int (bI z))]) hx hb dX1_write_40 hl (by decide) rfl (fun ls hl => ?_)
  refine lv_aload_n hx hb dX1_write_42 rfl (lv_at hl 2 rfl) ?_
  refine va_get (D := D) (ci := 1) (v := .ref ((rr r 1 q) 2)) (C := RX1) (T := TX1) (N := 4) hx hb hts hin hown hK hP 0 rfl rfl 2 (by decide) (hts (.fieldLink RX1 15 "SmudgedStarLaw$Sim" "astronomers" "[[I") (List.mem_of_getElem? (i := 3) rfl)) (fun _ h9 => h9) rfl dX1_write_43 ?_
  refine lv_astore (lv' := [(5, .ref ((rr r 1 q) 2)), (4, .int 0), (3, .int ((spx (fun j => zz (upd U nc (nI k)) (updB Z nc z) (nc + 1) j) (pw tc)).1)), (0, .ref ((rr r 1 q) 0)), (1, .int (nI k)), (2, .int (bI z))]) hx hb dX1_write_46 hl (by decide) rfl (fun ls hl => ?_)
  refine lv_aload hx hb dX1_write_48 (lv_at hl 0 rfl) ?_
  refine va_alen (v := nI ac) hx hb hK hP 2 1 rfl rfl rfl dX1_write_50 ?_
  refine lv_istore (lv' := [(6, .int (nI ac)), (5, .ref ((rr r 1 q) 2)), (4, .int 0), (3, .int ((spx (fun j => zz (upd U nc (nI k)) (updB Z nc z) (nc + 1) j) (pw tc)).1)), (0, .ref ((rr r 1 q) 0)), (1, .int (nI k)), (2, .int (bI z))]) hx hb dX1_write_51 hl (by decide) rfl (fun ls hl => ?_)
  refine lv_iconst (v := 0) hx hb dX1_write_53 (by decide) ?_
  refine lv_istore (lv' := [(7, .int 0), (6, .int (nI ac)), (5, .ref ((rr r 1 q) 2)), (4, .int 0), (3, .int ((spx (fun j => zz (upd U nc (nI k)) (updB Z nc z) (nc + 1) j) (pw tc)).1)), (0, .ref ((rr r 1 q) 0)), (1, .int (nI k)), (2, .int (bI z))]) hx hb dX1_write_54 hl (by decide) rfl (fun ls hl => ?_)
  refine W.widen (k := 300) (n := 66000) (by decide) (by decide) ?_
  refine w_loopG (N := ac) (I := fun i ls H locs => lv_has ls 9 [(7, .int (nI i)), (4, .int (nI (ct (sC B L (nI k) z ((spx (fun j => zz (upd U nc (nI k)) (updB Z nc z) (nc + 1) j) (pw tc)).1)) i))), (6, .int (nI ac)), (5, .ref ((rr r 1 q) 2)), (3, .int ((spx (fun j => zz (upd U nc (nI k)) (updB Z nc z) (nc + 1) j) (pw tc)).1)), (0, .ref ((rr r 1 q) 0)), (1, .int (nI k)), (2, .int (bI z))] ∧ va_P D vwCl (wS cI cR (rr r 1 q) (va_up nr nc b) ar tc (nc + 1) ac ch (upd U nc (nI k)) (updB Z nc z) (mrg (sB B L (nI k) z ((spx (fun j => zz (upd U nc (nI k)) (updB Z nc z) (nc + 1) j) (pw tc)).1)) B i) (mrg (sL B L F (nI k) z ((spx (fun j => zz (upd U nc (nI k)) (updB Z nc z) (nc + 1) j) (pw tc)).1)) L i) F) H ∧ va_D A (wS cI cR (rr r 1 q) (va_up nr nc b) ar tc (nc + 1) ac ch (upd U nc (nI k)) (updB Z nc z) (mrg (sB B L (nI k) z ((spx (fun j => zz (upd U nc (nI k)) (updB Z nc z) (nc + 1) j) (pw tc)).1)) B i) (mrg (sL B L F (nI k) z ((spx (fun j => zz (upd U nc (nI k)) (updB Z nc z) (nc + 1) j) (pw tc)).1)) L i) F) ∧ va_S A s.heap H locs) (cf := fun _ => 300) (sf := fun _ => 66000) 0 (Nat.zero_le _) ⟨lv_sub hl [0, 3, 1, 2, 4, 5, 6, 7] rfl, hP, hD, hS⟩ (fun i ls H locs hi hi0 hI ih => ?_)
  obtain ⟨hl, hP, hD, hS⟩ := hI
  refine lv_iload hx hb dX1_write_56 (lv_at hl 0 rfl) ?_
  refine lv_iload hx hb dX1_write_58 (lv_at hl 2 rfl) ?_
  refine lv_icmp_ge (tgt := 130) hx hb dX1_write_60 (by decide) (fun c60 => ?_) (fun c60 => ?_)
  · have hie : i = ac := gd_ge_t (by omega) hi c60
    rw [hie] at hl hP hD
    refine lv_aload_n hx hb dX1_write_130 rfl (lv_at hl 5 rfl) ?_
    refine lv_dup hx hb dX1_write_131 rfl ?_
    refine va_get (D := D) (ci := 1) (v := .int ch) (C := RX1) (T := TX1) (N := 4) hx hb hts hin hown hK hP 0 rfl rfl 3 (by decide) (hts (.fieldLink RX1 56 "SmudgedStarLaw$Sim" "changes" "I") (List.mem_of_getElem? (i := 4) rfl)) (fun _ h9 => h9) rfl dX1_write_132 ?_
    refine lv_iload hx hb dX1_write_135 (lv_at hl 1 rfl) ?_
    refine lv_iadd hx hb dX1_write_137 ?_
    refine va_put (D := D) (ci := 1) (v := .int (ch + (nI (ct (sC B L (nI k) z ((spx (fun j => zz (upd U nc (nI k)) (updB Z nc z) (nc + 1) j) (pw tc)).1)) ac)))) (ty := .int) (C := RX1) (T := TX1) (N := 4) hx hb hts hin tyX1 tyX1_ok nmX1 hown hK hP hD hS 0 rfl rfl 3 (by decide) (hts (.fieldLink RX1 56 "SmudgedStarLaw$Sim" "changes" "I") (List.mem_of_getElem? (i := 4) rfl)) (fun _ h9 => h9) rfl (by decide +kernel) rfl rfl (Nat.le_of_ble_eq_true rfl) dX1_write_138 (fun H locs hP hD hS => ?_)
    have hP : va_P D vwCl (wS cI cR (rr r 1 q) (va_up nr nc b) ar tc (nc + 1) ac (ch + (nI (ct (sC B L (nI k) z ((spx (fun j => zz (upd U nc (nI k)) (updB Z nc z) (nc + 1) j) (pw tc)).1)) ac))) (upd U nc (nI k)) (updB Z nc z) (mrg (sB B L (nI k) z ((spx (fun j => zz (upd U nc (nI k)) (updB Z nc z) (nc + 1) j) (pw tc)).1)) B ac) (mrg (sL B L F (nI k) z ((spx (fun j => zz (upd U nc (nI k)) (updB Z nc z) (nc + 1) j) (pw tc)).1)) L ac) F) H := hP
    have hD : va_D A (wS cI cR (rr r 1 q) (va_up nr nc b) ar tc (nc + 1) ac (ch + (nI (ct (sC B L (nI k) z ((spx (fun j => zz (upd U nc (nI k)) (updB Z nc z) (nc + 1) j) (pw tc)).1)) ac))) (upd U nc (nI k)) (updB Z nc z) (mrg (sB B L (nI k) z ((spx (fun j => zz (upd U nc (nI k)) (updB Z nc z) (nc + 1) j) (pw tc)).1)) B ac) (mrg (sL B L F (nI k) z ((spx (fun j => zz (upd U nc (nI k)) (updB Z nc z) (nc + 1) j) (pw tc)).1)) L ac) F) := hD
    refine lv_iload hx hb dX1_write_141 (lv_at hl 1 rfl) ?_
    exact W.iret (v := nI (ct (sC B L (nI k) z ((spx (fun j => zz (upd U nc (nI k)) (updB Z nc z) (nc + 1) j) (pw tc)).1)) ac)) hx hb hr (fun t9 ht9 hW9 => ⟨⟨_, (), rfl, rfl, q, b, by rw [ht9]; exact hP, hD⟩, hS.F ht9⟩) hS.2.2 dX1_write_143
  · have hlt : i < ac := gd_ge_f hi c60
    refine lv_aload hx hb dX1_write_63 (lv_at hl 3 rfl) ?_
    refine lv_iload hx hb dX1_write_65 (lv_at hl 0 rfl) ?_
    refine ra_ld hx hb hK hP 2 1 rfl rfl (j := i) rfl (hlt) (by omega) dX1_write_67 ?_
    refine lv_astore (lv' := [(8, .ref (ar i)), (7, .int (nI i)), (4, .int (nI (ct (sC B L (nI k) z ((spx (fun j => zz (upd U nc (nI k)) (updB Z nc z) (nc + 1) j) (pw tc)).1)) i))), (6, .int (nI ac)), (5, .ref ((rr r 1 q) 2)), (3, .int ((spx (fun j => zz (upd U nc (nI k)) (updB Z nc z) (nc + 1) j) (pw tc)).1)), (0, .ref ((rr r 1 q) 0)), (1, .int (nI k)), (2, .int (bI z))]) hx hb dX1_write_68 hl (by decide) rfl (fun ls hl => ?_)
    refine lv_aload_n hx hb dX1_write_70 rfl (lv_at hl 6 rfl) ?_
    refine lv_aload hx hb dX1_write_71 (lv_at hl 0 rfl) ?_
    refine lv_iconst (v := 0) hx hb dX1_write_73 (by decide) ?_
    refine rgA_0 hx hb hK hP (j := i) (hlt) dX1_write_74 ?_
    refine lv_cst (y := B i) (mrg_at _ _ _) ?_
    refine lv_iload_n hx hb dX1_write_75 rfl (lv_at hl 7 rfl) ?_
    refine pcV_i (As := [.int (B i), .int (nI k)]) (rest := []) ⟨hx, hb, hml, hown, hts⟩ (g_S_meetV l hP htc (by omega) hac (v := (B i)) (w := (nI k)) (hB i) ⟨k, hk, rfl⟩) (cwV 2 hts gX1_write_X1_meet rfl rfl rfl hdX1_meet ⟨Nat.le_of_ble_eq_true rfl, Nat.le_of_ble_eq_true rfl⟩) (va_recv hK hP (ci := 1) (q0 := 0) rfl rfl) hK rfl hl.1 (Nat.le_of_ble_eq_true rfl) rfl dX1_write_76 ⟨Nat.le_of_ble_eq_true rfl, Nat.le_of_ble_eq_true rfl⟩ ?_
    refine lv_iload_n hx hb dX1_write_79 rfl (lv_at hl 8 rfl) ?_
    refine lv_icmp_ne (tgt := 86) hx hb dX1_write_80 (by decide) (fun c80 => ?_) (fun c80 => ?_)
    · have hsx : sx (B i) (nI k) z = false := sx_not c80
      refine lv_aload hx hb dX1_write_86 (lv_at hl 0 rfl) ?_
      refine lv_iconst (v := 1) hx hb dX1_write_88 (by decide) ?_
      refine rgA_1 hx hb hK hP (j := i) (hlt) dX1_write_89 ?_
      refine lv_cst (y := L i) (mrg_at _ _ _) ?_
      refine lv_if_le (tgt := 104) hx hb dX1_write_90 (by decide) (fun c90 => ?_) (fun c90 => ?_)
      · skip
        refine lv_iload_n hx hb dX1_write_104 rfl (lv_at hl 5 rfl) ?_
        refine lv_if_lt (tgt := 124) hx hb dX1_write_105 (by decide) (fun c105 => ?_) (fun c105 => ?_)
        · have he : (spx (fun j => zz (upd U nc (nI k)) (updB Z nc z) (nc + 1) j) (pw tc)).1 = -1 := spx_neg hpw.2 c105
          have hsc : (sC B L (nI k) z ((spx (fun j => zz (upd U nc (nI k)) (updB Z nc z) (nc + 1) j) (pw tc)).1)) i = false := sC_c he
          rw [mrg_k (sB B L (nI k) z ((spx (fun j => zz (upd U nc (nI k)) (updB Z nc z) (nc + 1) j) (pw tc)).1)) B i (((if_neg (by rw [hsx]; decide)).trans ((if_neg (fun w9 => w9 c90)).trans (if_pos he))).symm)] at hP hD
          rw [mrg_k (sL B L F (nI k) z ((spx (fun j => zz (upd U nc (nI k)) (updB Z nc z) (nc + 1) j) (pw tc)).1)) L i (((if_neg (by rw [hsx]; decide)).trans ((if_neg (fun w9 => w9 c90)).trans (if_pos he))).symm)] at hP hD
          refine lv_iinc (v := nI (i + 1)) (lv' := [(7, .int (nI (i + 1))), (8, .ref (ar i)), (4, .int (nI (ct (sC B L (nI k) z ((spx (fun j => zz (upd U nc (nI k)) (updB Z nc z) (nc + 1) j) (pw tc)).1)) i))), (6, .int (nI ac)), (5, .ref ((rr r 1 q) 2)), (3, .int ((spx (fun j => zz (upd U nc (nI k)) (updB Z nc z) (nc + 1) j) (pw tc)).1)), (0, .ref ((rr r 1 q) 0)), (1, .int (nI k)), (2, .int (bI z))]) hx hb dX1_write_124 hl (k := 1) rfl (nI_1 _) (by decide) rfl (fun ls hl => ?_)
          refine lv_goto (tgt := 56) hx hb dX1_write_127 (by decide) ?_
          have e4 : nI (ct (sC B L (nI k) z ((spx (fun j => zz (upd U nc (nI k)) (updB Z nc z) (nc + 1) j) (pw tc)).1)) i) = nI (ct (sC B L (nI k) z ((spx (fun j => zz (upd U nc (nI k)) (updB Z nc z) (nc + 1) j) (pw tc)).1)) (i + 1)) := ct_f hsc
          have hl := lv_sub (l' := [(7, .int (nI (i + 1))), (4, .int (nI (ct (sC B L (nI k) z ((spx (fun j => zz (upd U nc (nI k)) (updB Z nc z) (nc + 1) j) (pw tc)).1)) i))), (6, .int (nI ac)), (5, .ref ((rr r 1 q) 2)), (3, .int ((spx (fun j => zz (upd U nc (nI k)) (updB Z nc z) (nc + 1) j) (pw tc)).1)), (0, .ref ((rr r 1 q) 0)), (1, .int (nI k)), (2, .int (bI z))]) hl [0, 2, 3, 4, 5, 6, 7, 8] rfl
          rw [e4] at hl
          exact ih ls _ _ hlt ⟨hl, hP, hD, hS⟩
        · have he : ¬ (spx (fun j => zz (upd U nc (nI k)) (updB Z nc z) (nc + 1) j) (pw tc)).1 = -1 := spx_pos c105
          have hsc : (sC B L (nI k) z ((spx (fun j => zz (upd U nc (nI k)) (updB Z nc z) (nc + 1) j) (pw tc)).1)) i = true := sC_d hsx c90 he
          refine lv_aload hx hb dX1_write_108 (lv_at hl 0 rfl) ?_
          refine lv_iconst (v := 0) hx hb dX1_write_110 (by decide) ?_
          refine lv_iload_n hx hb dX1_write_111 rfl (lv_at hl 5 rfl) ?_
          refine rgA_st0 (wl := []) hx hb hK hP hD hS (j := i) hlt dX1_write_112 (fun H locs hP hD hS => ?_)
          have hP : va_P D vwCl (wS cI cR (rr r 1 q) (va_up nr nc b) ar tc (nc + 1) ac ch (upd U nc (nI k)) (updB Z nc z) (upd (mrg (sB B L (nI k) z ((spx (fun j => zz (upd U nc (nI k)) (updB Z nc z) (nc + 1) j) (pw tc)).1)) B i) i ((spx (fun j => zz (upd U nc (nI k)) (updB Z nc z) (nc + 1) j) (pw tc)).1)) (mrg (sL B L F (nI k) z ((spx (fun j => zz (upd U nc (nI k)) (updB Z nc z) (nc + 1) j) (pw tc)).1)) L i) F) H := hP
          have hD : va_D A (wS cI cR (rr r 1 q) (va_up nr nc b) ar tc (nc + 1) ac ch (upd U nc (nI k)) (updB Z nc z) (upd (mrg (sB B L (nI k) z ((spx (fun j => zz (upd U nc (nI k)) (updB Z nc z) (nc + 1) j) (pw tc)).1)) B i) i ((spx (fun j => zz (upd U nc (nI k)) (updB Z nc z) (nc + 1) j) (pw tc)).1)) (mrg (sL B L F (nI k) z ((spx (fun j => zz (upd U nc (nI k)) (updB Z nc z) (nc + 1) j) (pw tc)).1)) L i) F) := hD
          refine lv_aload hx hb dX1_write_113 (lv_at hl 0 rfl) ?_
          refine lv_iconst (v := 1) hx hb dX1_write_115 (by decide) ?_
          refine lv_aload hx hb dX1_write_116 (lv_at hl 0 rfl) ?_
          refine lv_iconst (v := 2) hx hb dX1_write_118 (by decide) ?_
          refine rgA_2 hx hb hK hP (j := i) (hlt) dX1_write_119 ?_
          refine rgA_st1 (wl := []) hx hb hK hP hD hS (j := i) hlt dX1_write_120 (fun H locs hP hD hS => ?_)
          have hP : va_P D vwCl (wS cI cR (rr r 1 q) (va_up nr nc b) ar tc (nc + 1) ac ch (upd U nc (nI k)) (updB Z nc z) (upd (mrg (sB B L (nI k) z ((spx (fun j => zz (upd U nc (nI k)) (updB Z nc z) (nc + 1) j) (pw tc)).1)) B i) i ((spx (fun j => zz (upd U nc (nI k)) (updB Z nc z) (nc + 1) j) (pw tc)).1)) (upd (mrg (sL B L F (nI k) z ((spx (fun j => zz (upd U nc (nI k)) (updB Z nc z) (nc + 1) j) (pw tc)).1)) L i) i (F i)) F) H := hP
          have hD : va_D A (wS cI cR (rr r 1 q) (va_up nr nc b) ar tc (nc + 1) ac ch (upd U nc (nI k)) (updB Z nc z) (upd (mrg (sB B L (nI k) z ((spx (fun j => zz (upd U nc (nI k)) (updB Z nc z) (nc + 1) j) (pw tc)).1)) B i) i ((spx (fun j => zz (upd U nc (nI k)) (updB Z nc z) (nc + 1) j) (pw tc)).1)) (upd (mrg (sL B L F (nI k) z ((spx (fun j => zz (upd U nc (nI k)) (updB Z nc z) (nc + 1) j) (pw tc)).1)) L i) i (F i)) F) := hD
          rw [mrg_s (sB B L (nI k) z ((spx (fun j => zz (upd U nc (nI k)) (updB Z nc z) (nc + 1) j) (pw tc)).1)) B i (x := (spx (fun j => zz (upd U nc (nI k)) (updB Z nc z) (nc + 1) j) (pw tc)).1) (((if_neg (by rw [hsx]; decide)).trans ((if_neg (fun w9 => w9 c90)).trans (if_neg he))).symm)] at hP hD
          rw [mrg_s (sL B L F (nI k) z ((spx (fun j => zz (upd U nc (nI k)) (updB Z nc z) (nc + 1) j) (pw tc)).1)) L i (x := F i) (((if_neg (by rw [hsx]; decide)).trans ((if_neg (fun w9 => w9 c90)).trans (if_neg he))).symm)] at hP hD
          refine lv_iinc (v := nI ((ct (sC B L (nI k) z ((spx (fun j => zz (upd U nc (nI k)) (updB Z nc z) (nc + 1) j) (pw tc)).1)) i) + 1)) (lv' := [(4, .int (nI ((ct (sC B L (nI k) z ((spx (fun j => zz (upd U nc (nI k)) (updB Z nc z) (nc + 1) j) (pw tc)).1)) i) + 1))), (8, .ref (ar i)), (7, .int (nI i)), (6, .int (nI ac)), (5, .ref ((rr r 1 q) 2)), (3, .int ((spx (fun j => zz (upd U nc (nI k)) (updB Z nc z) (nc + 1) j) (pw tc)).1)), (0, .ref ((rr r 1 q) 0)), (1, .int (nI k)), (2, .int (bI z))]) hx hb dX1_write_121 hl (k := 2) rfl (nI_1 _) (by decide) rfl (fun ls hl => ?_)
          refine lv_iinc (v := nI (i + 1)) (lv' := [(7, .int (nI (i + 1))), (4, .int (nI ((ct (sC B L (nI k) z ((spx (fun j => zz (upd U nc (nI k)) (updB Z nc z) (nc + 1) j) (pw tc)).1)) i) + 1))), (8, .ref (ar i)), (6, .int (nI ac)), (5, .ref ((rr r 1 q) 2)), (3, .int ((spx (fun j => zz (upd U nc (nI k)) (updB Z nc z) (nc + 1) j) (pw tc)).1)), (0, .ref ((rr r 1 q) 0)), (1, .int (nI k)), (2, .int (bI z))]) hx hb dX1_write_124 hl (k := 2) rfl (nI_1 _) (by decide) rfl (fun ls hl => ?_)
          refine lv_goto (tgt := 56) hx hb dX1_write_127 (by decide) ?_
          have e4 : (nI ((ct (sC B L (nI k) z ((spx (fun j => zz (upd U nc (nI k)) (updB Z nc z) (nc + 1) j) (pw tc)).1)) i) + 1)) = nI (ct (sC B L (nI k) z ((spx (fun j => zz (upd U nc (nI k)) (updB Z nc z) (nc + 1) j) (pw tc)).1)) (i + 1)) := ct_t1 hsc
          have hl := lv_sub (l' := [(7, .int (nI (i + 1))), (4, .int (nI ((ct (sC B L (nI k) z ((spx (fun j => zz (upd U nc (nI k)) (updB Z nc z) (nc + 1) j) (pw tc)).1)) i) + 1))), (6, .int (nI ac)), (5, .ref ((rr r 1 q) 2)), (3, .int ((spx (fun j => zz (upd U nc (nI k)) (updB Z nc z) (nc + 1) j) (pw tc)).1)), (0, .ref ((rr r 1 q) 0)), (1, .int (nI k)), (2, .int (bI z))]) hl [0, 1, 3, 4, 5, 6, 7, 8] rfl
          rw [e4] at hl
          exact ih ls _ _ hlt ⟨hl, hP, hD, hS⟩
      · have hsc : (sC B L (nI k) z ((spx (fun j => zz (upd U nc (nI k)) (updB Z nc z) (nc + 1) j) (pw tc)).1)) i = false := sC_b hsx c90
        refine lv_aload hx hb dX1_write_93 (lv_at hl 0 rfl) ?_
        refine lv_iconst (v := 1) hx hb dX1_write_95 (by decide) ?_
        refine lv_dup2_11 hx hb dX1_write_96 rfl rfl ?_
        refine rgA_1 hx hb hK hP (j := i) (hlt) dX1_write_97 ?_
        refine lv_cst (y := L i) (mrg_at _ _ _) ?_
        refine lv_iconst (v := 1) hx hb dX1_write_98 (by decide) ?_
        refine lv_isub hx hb dX1_write_99 ?_
        refine rgA_st1 (wl := []) hx hb hK hP hD hS (j := i) hlt dX1_write_100 (fun H locs hP hD hS => ?_)
        have hP : va_P D vwCl (wS cI cR (rr r 1 q) (va_up nr nc b) ar tc (nc + 1) ac ch (upd U nc (nI k)) (updB Z nc z) (mrg (sB B L (nI k) z ((spx (fun j => zz (upd U nc (nI k)) (updB Z nc z) (nc + 1) j) (pw tc)).1)) B i) (upd (mrg (sL B L F (nI k) z ((spx (fun j => zz (upd U nc (nI k)) (updB Z nc z) (nc + 1) j) (pw tc)).1)) L i) i (L i - 1)) F) H := hP
        have hD : va_D A (wS cI cR (rr r 1 q) (va_up nr nc b) ar tc (nc + 1) ac ch (upd U nc (nI k)) (updB Z nc z) (mrg (sB B L (nI k) z ((spx (fun j => zz (upd U nc (nI k)) (updB Z nc z) (nc + 1) j) (pw tc)).1)) B i) (upd (mrg (sL B L F (nI k) z ((spx (fun j => zz (upd U nc (nI k)) (updB Z nc z) (nc + 1) j) (pw tc)).1)) L i) i (L i - 1)) F) := hD
        rw [mrg_k (sB B L (nI k) z ((spx (fun j => zz (upd U nc (nI k)) (updB Z nc z) (nc + 1) j) (pw tc)).1)) B i (((if_neg (by rw [hsx]; decide)).trans (if_pos c90)).symm)] at hP hD
        rw [mrg_s (sL B L F (nI k) z ((spx (fun j => zz (upd U nc (nI k)) (updB Z nc z) (nc + 1) j) (pw tc)).1)) L i (x := L i - 1) (((if_neg (by rw [hsx]; decide)).trans (if_pos c90)).symm)] at hP hD
        refine lv_goto (tgt := 124) hx hb dX1_write_101 (by decide) ?_
        refine lv_iinc (v := nI (i + 1)) (lv' := [(7, .int (nI (i + 1))), (8, .ref (ar i)), (4, .int (nI (ct (sC B L (nI k) z ((spx (fun j => zz (upd U nc (nI k)) (updB Z nc z) (nc + 1) j) (pw tc)).1)) i))), (6, .int (nI ac)), (5, .ref ((rr r 1 q) 2)), (3, .int ((spx (fun j => zz (upd U nc (nI k)) (updB Z nc z) (nc + 1) j) (pw tc)).1)), (0, .ref ((rr r 1 q) 0)), (1, .int (nI k)), (2, .int (bI z))]) hx hb dX1_write_124 hl (k := 1) rfl (nI_1 _) (by decide) rfl (fun ls hl => ?_)
        refine lv_goto (tgt := 56) hx hb dX1_write_127 (by decide) ?_
        have e4 : nI (ct (sC B L (nI k) z ((spx (fun j => zz (upd U nc (nI k)) (updB Z nc z) (nc + 1) j) (pw tc)).1)) i) = nI (ct (sC B L (nI k) z ((spx (fun j => zz (upd U nc (nI k)) (updB Z nc z) (nc + 1) j) (pw tc)).1)) (i + 1)) := ct_f hsc
        have hl := lv_sub (l' := [(7, .int (nI (i + 1))), (4, .int (nI (ct (sC B L (nI k) z ((spx (fun j => zz (upd U nc (nI k)) (updB Z nc z) (nc + 1) j) (pw tc)).1)) i))), (6, .int (nI ac)), (5, .ref ((rr r 1 q) 2)), (3, .int ((spx (fun j => zz (upd U nc (nI k)) (updB Z nc z) (nc + 1) j) (pw tc)).1)), (0, .ref ((rr r 1 q) 0)), (1, .int (nI k)), (2, .int (bI z))]) hl [0, 2, 3, 4, 5, 6, 7, 8] rfl
        rw [e4] at hl
        exact ih ls _ _ hlt ⟨hl, hP, hD, hS⟩
    · have hsx : sx (B i) (nI k) z = true := sx_of c80
      have hsc : (sC B L (nI k) z ((spx (fun j => zz (upd U nc (nI k)) (updB Z nc z) (nc + 1) j) (pw tc)).1)) i = false := sC_a hsx
      rw [mrg_k (sB B L (nI k) z ((spx (fun j => zz (upd U nc (nI k)) (updB Z nc z) (nc + 1) j) (pw tc)).1)) B i ((if_pos hsx).symm)] at hP hD
      rw [mrg_k (sL B L F (nI k) z ((spx (fun j => zz (upd U nc (nI k)) (updB Z nc z) (nc + 1) j) (pw tc)).1)) L i ((if_pos hsx).symm)] at hP hD
      refine lv_goto (tgt := 124) hx hb dX1_write_83 (by decide) ?_
      refine lv_iinc (v := nI (i + 1)) (lv' := [(7, .int (nI (i + 1))), (8, .ref (ar i)), (4, .int (nI (ct (sC B L (nI k) z ((spx (fun j => zz (upd U nc (nI k)) (updB Z nc z) (nc + 1) j) (pw tc)).1)) i))), (6, .int (nI ac)), (5, .ref ((rr r 1 q) 2)), (3, .int ((spx (fun j => zz (upd U nc (nI k)) (updB Z nc z) (nc + 1) j) (pw tc)).1)), (0, .ref ((rr r 1 q) 0)), (1, .int (nI k)), (2, .int (bI z))]) hx hb dX1_write_124 hl (k := 1) rfl (nI_1 _) (by decide) rfl (fun ls hl => ?_)
      refine lv_goto (tgt := 56) hx hb dX1_write_127 (by decide) ?_
      have e4 : nI (ct (sC B L (nI k) z ((spx (fun j => zz (upd U nc (nI k)) (updB Z nc z) (nc + 1) j) (pw tc)).1)) i) = nI (ct (sC B L (nI k) z ((spx (fun j => zz (upd U nc (nI k)) (updB Z nc z) (nc + 1) j) (pw tc)).1)) (i + 1)) := ct_f hsc
      have hl := lv_sub (l' := [(7, .int (nI (i + 1))), (4, .int (nI (ct (sC B L (nI k) z ((spx (fun j => zz (upd U nc (nI k)) (updB Z nc z) (nc + 1) j) (pw tc)).1)) i))), (6, .int (nI ac)), (5, .ref ((rr r 1 q) 2)), (3, .int ((spx (fun j => zz (upd U nc (nI k)) (updB Z nc z) (nc + 1) j) (pw tc)).1)), (0, .ref ((rr r 1 q) 0)), (1, .int (nI k)), (2, .int (bI z))]) hl [0, 2, 3, 4, 5, 6, 7, 8] rfl
      rw [e4] at hl
      exact ih ls _ _ hlt ⟨hl, hP, hD, hS⟩
