/-! the law's own methods: a quarrel that cells choose -/
section PCX
variable {p : Program} {l : Launch} {e : Env} {R : Room} {s : State} {m : MethodId} {args : Array Value} {below : List Frame} {meth : Method} {c : Code} {H : Heap} {locs : List Loc} {cells slots : Nat} {Q : State → Prop}
variable {cc bytes : ByteArray} {pc nL maxL n index : Nat} {ls : Array Slot} {rest st0 As : List Value} {ret : Option FieldType} {ws : List Cond} {rm : Room} {own : String} {Ts : List Cond} {y : MethodName} {b N : Nat} {xs : Nat → Int32}
theorem pcX_i {v : Int32} (S : CallFix p m c cc nL s args Ts own) (hM : Met l y ws rm (va_Pc As (sX b N xs H)) (vp_Si (fun r => r = v)) 0 0 (fun _ => False)) (cw : CallB R s args own index y bytes maxL ret ws rm 0 0 n ∧ (Cond.static y).before args s = true) (hX : va_X b N xs s H) (hn : As.length = n) (hsz : ls.size = nL) (hW : (rest.map fun v => v.category).sum ≤ 8) (hst : st0 = As.reverse ++ rest) (hdg : decode cc pc = .ok (.invokestatic index, 3)) (hf : cells ≤ R.cells ∧ slots ≤ R.slots)
    (kk : W p l e R s m args below meth c H locs cells slots Q (F0 m (pc + 3) ls (.int v :: rest))) : W p l e R s m args below meth c H locs cells slots Q (F0 m pc ls st0) :=
  vp_callSi (W.runS (As := As) (rest := rest) S hM cw ⟨sX_blind, sX_pre hX⟩ rfl hn hsz hst (lv_room hW) hdg hf) (fun r hrv => by subst hrv; exact kk)
end PCX
abbrev nst (U : State) : Prop := va_Nw (.methodLinkNest RL 61 yX1_init RL) U
abbrev rdX (D : va_G) (cl : List vw_C) (tys : List (ClassId × FieldType)) (b N : Nat) (xs : Nat → Int32) (H : Heap) : State → Prop := fun U => U.heap = H ∧ va_K D cl tys U ∧ ov U ∧ va_X b N xs U H ∧ nst U
theorem rdX_blind {D : va_G} {cl : List vw_C} {tys : List (ClassId × FieldType)} {b N : Nat} {xs : Nat → Int32} {H : Heap} {av : List Value} : FrameBlind (va_Pc av (rdX D cl tys b N xs H)) := by
  intro a U g mk q
  obtain ⟨q1, q2, q3, q4, q5, q6⟩ := q
  exact ⟨q1, q2, va_K.moved (u := U) (U := U.calling g mk a) (Vm.Alike.refl U.vm) q3, ov_go (s := U) (U := U.calling g mk a) (Vm.Alike.refl U.vm) q4, va_X.moved (u := U) (U := U.calling g mk a) (Vm.Alike.refl U.vm) q5, va_Nw.same rfl (u := U) (U := U.calling g mk a) rfl q6⟩
theorem rdX_pre {s : State} {D : va_G} {cl : List vw_C} {tys : List (ClassId × FieldType)} {b N : Nat} {xs : Nat → Int32} {H : Heap} {av : List Value} (hK : va_K D cl tys s) (hov : ov s) (hX : va_X b N xs s H) (hn : nst s) : ∀ U : State, U.heap = H → s.WarmedH U.vm → va_Pc av (rdX D cl tys b N xs H) av.toArray U := fun U hU hW => ⟨rfl, hU, va_K.moved hW.alike hK, ov_go hW.alike hov, va_X.moved hW.alike hX, va_Nw.warmM hW hn⟩
/-- both quarrels, their numbers told -/
def XSn (D : va_G) (cI cZ cR : ClassId) (q : Nat → Nat) (r0 : Nat) (A : Nat → Prop) (H : Heap) (tc nc ac : Nat) : Prop :=
  ∃ (ch : Int32) (U : Nat → Int32) (Z : Nat → Bool) (B L F : Nat → Int32) (r nr ar : Nat → Nat), r 0 = r0 ∧ Gd tc nc ac U B L F ∧ va_P D vwCl (wX cI cZ q tc nc ac ch U Z B L F ++ wS cI cR r nr ar tc nc ac ch U Z B L F) H ∧ va_D A (wX cI cZ q tc nc ac ch U Z B L F ++ wS cI cR r nr ar tc nc ac ch U Z B L F)
theorem XSn.toXS {D : va_G} {cI cZ cR : ClassId} {q : Nat → Nat} {r0 : Nat} {A : Nat → Prop} {H : Heap} {tc nc ac : Nat} (h : XSn D cI cZ cR q r0 A H tc nc ac) : XS D cI cZ cR q r0 A H := by
  obtain ⟨ch, U, Z, B, L, F, r, nr, ar, h⟩ := h
  exact ⟨tc, nc, ac, ch, U, Z, B, L, F, r, nr, ar, h⟩
theorem bz_1 (x : Int32) : bI (!(decide (x = 0))) = bI (!(decide (x = 0))) := rfl
set_option maxHeartbeats 4000000 in
set_option maxRecDepth 100000 in
theorem w_L_build (l : Launch) {D : va_G} {cI cZ cR : ClassId} {q : Nat → Nat} {bS N : Nat} {xs : Nat → Int32} {H : Heap} (hP : va_P D vwCl (wX cI cZ q 0 0 0 0 (fun _ => 0) (fun _ => false) (fun _ => 0) (fun _ => 0) (fun _ => 0)) H) (hD0 : va_D (fun _ => True) (wX cI cZ q 0 0 0 0 (fun _ => 0) (fun _ => false) (fun _ => 0) (fun _ => 0) (fun _ => 0))) (hN : N ≤ 260) (hbl : bS < H.size) (hbX : ¬ va_A (wX cI cZ q 0 0 0 0 (fun _ => 0) (fun _ => false) (fun _ => 0) (fun _ => 0) (fun _ => 0)) H.size bS) : Met l yL_build wsL_build ({ frames := 5, cells := 3000, slots := 700000, locals := 124 }) (va_Pc [.ref (q 0), .ref bS] (rdX D vwCl (tyL cI cZ cR) bS N xs H)) (va_Qr (fun _ : Unit => True) (fun _ r0 t9 => XS D cI cZ cR q r0 (va_A (wX cI cZ q 0 0 0 0 (fun _ => 0) (fun _ => false) (fun _ => 0) (fun _ => 0) (fun _ => 0)) H.size) t9.heap) (va_A (wX cI cZ q 0 0 0 0 (fun _ => 0) (fun _ => false) (fun _ => 0) (fun _ => 0) (fun _ => 0)) H.size)) 3000 700000 (va_A (wX cI cZ q 0 0 0 0 (fun _ => 0) (fun _ => false) (fun _ => 0) (fun _ => 0) (fun _ => 0)) H.size) := by
  refine Met.ofW (cc := cL_build) (maxL := 8) (ret := (some (.object "SmudgedStarLaw$Sim"))) (by decide) rfl ?_
  intro p e s m args below meth c s₁ B9 hml hv
  obtain ⟨rfl, hH, hKL, hov, hX, hnst⟩ := hv
  subst hH
  have hx := B9.exec
  have hb := B9.bytes
  have hr := B9.returns
  have hts := atoms_spec (ws := wsL_build) B9.pre
  have hown : s.vm.findClass RL = some m.cls := findClass_of_methodNamed B9.named
  have hlocks := B9.notSynchronized
  have hin : ∀ w ∈ u_ws RX1 TX1 4, w ∈ wsL_build := fun w h => List.mem_cons_of_mem _ (List.mem_append_left _ (List.mem_append_left _ (List.mem_append_left _ (List.mem_append_right _ h))))
  have hl := lv_entry ([.ref (q 0), .ref bS]) (n := 8) (Nat.le_of_ble_eq_true rfl)
  rw [lg_entry_eq]
  generalize (lg_sl ([.ref (q 0), .ref bS]) ++ List.replicate (8 - (lg_sl ([.ref (q 0), .ref bS])).length) Slot.unset).toArray = ls at hl ⊢
  have hl : lv_has ls 8 [(0, .ref (q 0)), (1, .ref bS)] := hl
  have hD := hD0.self (sz := s.heap.size)
  generalize hAe : va_A (wX cI cZ q 0 0 0 0 (fun _ => 0) (fun _ => false) (fun _ => 0) (fun _ => 0) (fun _ => 0)) s.heap.size = A at hD hbX ⊢
  have hA : ∀ q : Nat, s.heap.size ≤ q → A q := fun q h => by rw [← hAe]; exact Or.inr h
  have hS : va_S A s.heap s.heap [] := va_S.rf
  have hK : va_K D vwCl (tyS cI cR) s := hKL.sub [0, 2] rfl
  have hKX : va_K D vwCl (tyA cI cZ) s := hKL.sub [0, 1] rfl
  refine va_new (D := D) (cl := vwCl) (ci := 1) (fs := [.int 0, .null, .null, .int 0]) (C := RX1) (T := TX1) (N := 4) hx hb hts hin tyX1 tyX1_ok hown (hts (.classLink RL 10 RX1) (List.mem_of_getElem? (i := 1) rfl)) (hts (.instantiable RX1 4) (List.mem_of_getElem? (i := 2) rfl)) (hts (.initialized RX1) (List.mem_of_getElem? (i := 3) rfl)) hK hP hD hS hA rfl (fun j hj => by rcases (show j = 0 ∨ j = 1 ∨ j = 2 ∨ j = 3 by omega) with rfl | rfl | rfl | rfl <;> rfl) (Nat.le_of_ble_eq_true rfl) (Nat.le_of_ble_eq_true rfl) dL_build_0 (fun h0 H hP hD hS => ?_)
  refine lv_dup hx hb dL_build_3 rfl ?_
  have hFr := fr_r hD hS hA
  refine va_callv (va_runIN (As := []) (rest := [.ref h0]) ⟨hx, hb, hml, hown, hts⟩ (w_S_init l (P_r hP) (D_r hD)) ⟨va_cnB 0 hts gL_build_X1_init_n61 rfl rfl rfl hnst (hts (.initialized RX1) (List.mem_of_getElem? (i := 3) rfl)) (by decide +kernel) ⟨Nat.le_of_ble_eq_true rfl, Nat.le_of_ble_eq_true rfl⟩, rfl, (hts (.instanceMethod yX1_init) (List.mem_of_getElem? (i := 7) rfl))⟩ ⟨rdo_blind, rdo_pre hK hov⟩ rfl rfl hl.1 rfl (lv_room (Nat.le_of_ble_eq_true rfl)) dL_build_4 ⟨Nat.le_of_ble_eq_true rfl, Nat.le_of_ble_eq_true rfl⟩) hS (fun z _ h => hFr z h) hFr (fun u t9 H1 locs ht9 hvm9 hw9 hB9 hz1 hk1 hS => ?_)
  obtain ⟨q1, q2, hP9, hD9⟩ := hB9
  rw [ht9] at hP9
  have hD1 := up_rD hP hD hFr hD9
  have hP1 := up_r hP hD hk1 hP9
  clear hP9 hk1 hz1 hD9 hFr hP hD
  have hP := hP1
  have hD := hD1
  clear hP1 hD1
  generalize H1 = H at hP hS ⊢
  obtain ⟨r, hr9⟩ : ∃ r : Nat → Nat, rr (rr (fun _ => h0) 1 q1) 2 q2 = r := ⟨_, rfl⟩
  have hr0 : h0 = r 0 := by rw [← hr9]; rfl
  rw [hr9] at hP hD
  clear hr9
  subst hr0
  have hP : va_P D vwCl (wX cI cZ q 0 0 0 0 (fun _ => 0) (fun _ => false) (fun _ => 0) (fun _ => 0) (fun _ => 0) ++ wS cI cR r (fun _ => 0) (fun _ => 0) 0 0 0 0 (fun _ => 0) (fun _ => false) (fun _ => 0) (fun _ => 0) (fun _ => 0)) H := hP
  have hD : va_D A (wX cI cZ q 0 0 0 0 (fun _ => 0) (fun _ => false) (fun _ => 0) (fun _ => 0) (fun _ => 0) ++ wS cI cR r (fun _ => 0) (fun _ => 0) 0 0 0 0 (fun _ => 0) (fun _ => false) (fun _ => 0) (fun _ => 0) (fun _ => 0)) := hD
  have hPX : va_P D vwCl (wX cI cZ q 0 0 0 0 (fun _ => 0) (fun _ => false) (fun _ => 0) (fun _ => 0) (fun _ => 0)) H := P_l hP
  have hPS : va_P D vwCl (wS cI cR r (fun _ => 0) (fun _ => 0) 0 0 0 0 (fun _ => 0) (fun _ => false) (fun _ => 0) (fun _ => 0) (fun _ => 0)) H := P_r hP
  have hpos : ∀ z : Nat, s.heap.size ≤ z → A z := hA
  refine lv_astore_n (lv' := [(2, .ref (r 0)), (0, .ref (q 0)), (1, .ref bS)]) hx hb dL_build_7 rfl hl (by decide) rfl (fun ls hl => ?_)
  refine lv_iconst (v := 1) hx hb dL_build_8 (by decide) ?_
  refine lv_aload_n hx hb dL_build_9 rfl (lv_at hl 2 rfl) ?_
  refine lv_iconst (v := 0) hx hb dL_build_10 (by decide) ?_
  refine lv_cst (y := nI 0) rfl ?_
  have hXc : va_X bS N xs s H := hX.kept (hS.2.1 bS hbl hbX)
  have hbH : bS < H.size := Nat.lt_of_lt_of_le hbl hS.1
  refine pcX_i (As := [.ref bS, .int (nI 0)]) (rest := [.int 1]) ⟨hx, hb, hml, hown, hts⟩ (g_L_cell l hN (by omega) hbH) (va_cwS 2 hts gL_build_L_cell rfl rfl rfl hdL_cell ⟨Nat.le_of_ble_eq_true rfl, Nat.le_of_ble_eq_true rfl⟩) hXc rfl hl.1 (Nat.le_of_ble_eq_true rfl) rfl dL_build_11 ⟨Nat.le_of_ble_eq_true rfl, Nat.le_of_ble_eq_true rfl⟩ ?_
  refine lv_bipush (v := 7) hx hb dL_build_14 (by decide) ?_
  refine lv_cst (y := nI 7) rfl ?_
  refine pcS_i (As := [.int (cv xs N 0), .int (nI 7)]) (rest := [.int 1]) ⟨hx, hb, hml, hown, hts⟩ (g_L_below l (v := (cv xs N 0)) (n := 7) (by omega) (by omega)) (va_cwS 2 hts gL_build_L_below rfl rfl rfl hdL_below ⟨Nat.le_of_ble_eq_true rfl, Nat.le_of_ble_eq_true rfl⟩) rfl hl.1 (Nat.le_of_ble_eq_true rfl) rfl dL_build_16 ⟨Nat.le_of_ble_eq_true rfl, Nat.le_of_ble_eq_true rfl⟩ ?_
  refine lv_iadd hx hb dL_build_19 ?_
  obtain ⟨tc, htc1, htc7, etc⟩ : ∃ t : Nat, 1 ≤ t ∧ t ≤ 7 ∧ 1 + nI (bw (cv xs N 0) 7) = nI t := ⟨1 + bw (cv xs N 0) 7, by omega, by have := bw_lt (cv xs N 0) (n := 7) (by decide); omega, nI_add 1 _⟩
  refine lv_cst (y := nI tc) etc ?_
  refine lv_istore_n (lv' := [(3, .int (nI tc)), (2, .ref (r 0)), (0, .ref (q 0)), (1, .ref bS)]) hx hb dL_build_20 rfl hl (by decide) rfl (fun ls hl => ?_)
  refine lv_iconst (v := 0) hx hb dL_build_21 (by decide) ?_
  refine lv_istore (lv' := [(4, .int 0), (3, .int (nI tc)), (2, .ref (r 0)), (0, .ref (q 0)), (1, .ref bS)]) hx hb dL_build_22 hl (by decide) rfl (fun ls hl => ?_)
  refine w_loopG (N := tc) (I := fun i ls H locs => lv_has ls 8 [(4, .int (nI i)), (3, .int (nI tc)), (2, .ref (r 0)), (0, .ref (q 0)), (1, .ref bS)] ∧ va_P D vwCl (wX cI cZ q i 0 0 0 (fun _ => 0) (fun _ => false) (fun _ => 0) (fun _ => 0) (fun _ => 0) ++ wS cI cR r (fun _ => 0) (fun _ => 0) 0 0 0 0 (fun _ => 0) (fun _ => false) (fun _ => 0) (fun _ => 0) (fun _ => 0)) H ∧ va_D A (wX cI cZ q i 0 0 0 (fun _ => 0) (fun _ => false) (fun _ => 0) (fun _ => 0) (fun _ => 0) ++ wS cI cR r (fun _ => 0) (fun _ => 0) 0 0 0 0 (fun _ => 0) (fun _ => false) (fun _ => 0) (fun _ => 0) (fun _ => 0)) ∧ va_S A s.heap H locs) (cf := fun _ => 3) (sf := fun _ => 4) 0 (Nat.zero_le _) ⟨lv_sub hl [0, 1, 2, 3, 4] rfl, hP, hD, hS⟩ (fun i ls H locs hi hi0 hI ih => ?_)
  obtain ⟨hl, hP, hD, hS⟩ := hI
  have hP : va_P D vwCl (wX cI cZ q i 0 0 0 (fun _ => 0) (fun _ => false) (fun _ => 0) (fun _ => 0) (fun _ => 0) ++ wS cI cR r (fun _ => 0) (fun _ => 0) 0 0 0 0 (fun _ => 0) (fun _ => false) (fun _ => 0) (fun _ => 0) (fun _ => 0)) H := hP
  have hD : va_D A (wX cI cZ q i 0 0 0 (fun _ => 0) (fun _ => false) (fun _ => 0) (fun _ => 0) (fun _ => 0) ++ wS cI cR r (fun _ => 0) (fun _ => 0) 0 0 0 0 (fun _ => 0) (fun _ => false) (fun _ => 0) (fun _ => 0) (fun _ => 0)) := hD
  have hPX : va_P D vwCl (wX cI cZ q i 0 0 0 (fun _ => 0) (fun _ => false) (fun _ => 0) (fun _ => 0) (fun _ => 0)) H := P_l hP
  have hPS : va_P D vwCl (wS cI cR r (fun _ => 0) (fun _ => 0) 0 0 0 0 (fun _ => 0) (fun _ => false) (fun _ => 0) (fun _ => 0) (fun _ => 0)) H := P_r hP
  refine lv_iload hx hb dL_build_24 (lv_at hl 0 rfl) ?_
  refine lv_iload_n hx hb dL_build_26 rfl (lv_at hl 1 rfl) ?_
  refine lv_icmp_ge (tgt := 47) hx hb dL_build_27 (by decide) (fun c27 => ?_) (fun c27 => ?_)
  · have hie : i = tc := gd_ge_t (by omega) hi c27
    subst hie
    refine lv_aload_n hx hb dL_build_47 rfl (lv_at hl 2 rfl) ?_
    refine lv_iload_n hx hb dL_build_48 rfl (lv_at hl 1 rfl) ?_
    refine va_put (D := D) (ci := 1) (v := .int (nI i)) (ty := .int) (C := RX1) (T := TX1) (N := 4) hx hb hts hin tyX1 tyX1_ok nmX1 hown hK hP hD hS 7 rfl rfl 0 (by decide) (hts (.fieldLink RL 21 "SmudgedStarLaw$Sim" "things" "I") (List.mem_of_getElem? (i := 4) rfl)) (fun _ h9 => h9) rfl (by decide +kernel) rfl rfl (Nat.le_of_ble_eq_true rfl) dL_build_49 (fun H locs hP hD hS => ?_)
    have hP : va_P D vwCl (wX cI cZ q i 0 0 0 (fun _ => 0) (fun _ => false) (fun _ => 0) (fun _ => 0) (fun _ => 0) ++ wS cI cR r (fun _ => 0) (fun _ => 0) i 0 0 0 (fun _ => 0) (fun _ => false) (fun _ => 0) (fun _ => 0) (fun _ => 0)) H := hP
    have hD : va_D A (wX cI cZ q i 0 0 0 (fun _ => 0) (fun _ => false) (fun _ => 0) (fun _ => 0) (fun _ => 0) ++ wS cI cR r (fun _ => 0) (fun _ => 0) i 0 0 0 (fun _ => 0) (fun _ => false) (fun _ => 0) (fun _ => 0) (fun _ => 0)) := hD
    have hPX : va_P D vwCl (wX cI cZ q i 0 0 0 (fun _ => 0) (fun _ => false) (fun _ => 0) (fun _ => 0) (fun _ => 0)) H := P_l hP
    have hPS : va_P D vwCl (wS cI cR r (fun _ => 0) (fun _ => 0) i 0 0 0 (fun _ => 0) (fun _ => false) (fun _ => 0) (fun _ => 0) (fun _ => 0)) H := P_r hP
    have hG : Gd i 0 0 (fun _ => 0) (fun _ => 0) (fun _ => 0) (fun _ => 0) := ⟨⟨by omega, by omega⟩, by decide, by decide, fun _ => ⟨0, (pw_in (by omega : i ≤ 8)).1, nI_0.symm⟩, fun _ => ⟨0, (pw_in (by omega : i ≤ 8)).1, nI_0.symm⟩, fun _ => ⟨0, by decide, nI_0.symm⟩, fun _ => ⟨0, by decide, nI_0.symm⟩⟩
    have hXS : XSn D cI cZ cR q (r 0) A H i 0 0 := ⟨0, _, _, _, _, _, r, _, _, rfl, hG, hP, hD⟩
    clear hP hD hPX hPS hG ih hi
    generalize i = tc at htc1 htc7 hl hXS ⊢
    generalize r 0 = r0 at hl hXS ⊢
    refine lv_iconst (v := 0) hx hb dL_build_52 (by decide) ?_
    refine lv_istore (lv' := [(4, .int 0), (3, .int (nI tc)), (2, .ref r0), (0, .ref (q 0)), (1, .ref bS)]) hx hb dL_build_53 hl (by decide) rfl (fun ls hl => ?_)
    obtain ⟨n6, hn6, en6⟩ : ∃ j : Nat, j < 6 ∧ nI (bw (cv xs N 1) 6) = nI j := ⟨_, bw_lt _ (by decide), rfl⟩
    refine W.widen (k := 3 + 2 * 0) (n := 4 + 44 * 0) (by decide) (by decide) ?_
    refine w_loopG (N := n6) (I := fun i ls H locs => lv_has ls 8 [(4, .int (nI i)), (3, .int (nI tc)), (2, .ref r0), (0, .ref (q 0)), (1, .ref bS)] ∧ XSn D cI cZ cR q r0 A H tc 0 i ∧ va_S A s.heap H locs) (cf := fun i => 3 + 2 * i) (sf := fun i => 4 + 44 * i) 0 (Nat.zero_le _) ⟨lv_sub hl [0, 1, 2, 3, 4] rfl, hXS, hS⟩ (fun i ls H locs hi hi0 hI ih => ?_)
    obtain ⟨hl, hXS, hS⟩ := hI
    refine lv_iload hx hb dL_build_55 (lv_at hl 0 rfl) ?_
    refine lv_aload_n hx hb dL_build_57 rfl (lv_at hl 4 rfl) ?_
    refine lv_iconst (v := 1) hx hb dL_build_58 (by decide) ?_
    refine lv_cst (y := nI 1) rfl ?_
    have hXc : va_X bS N xs s H := hX.kept (hS.2.1 bS hbl hbX)
    have hbH : bS < H.size := Nat.lt_of_lt_of_le hbl hS.1
    refine pcX_i (As := [.ref bS, .int (nI 1)]) (rest := [.int (nI i)]) ⟨hx, hb, hml, hown, hts⟩ (g_L_cell l hN (by omega) hbH) (va_cwS 2 hts gL_build_L_cell rfl rfl rfl hdL_cell ⟨Nat.le_of_ble_eq_true rfl, Nat.le_of_ble_eq_true rfl⟩) hXc rfl hl.1 (Nat.le_of_ble_eq_true rfl) rfl dL_build_59 ⟨by show 3 + 2 * i ≤ 3000; omega, by show 4 + 44 * i ≤ 700000; omega⟩ ?_
    refine lv_bipush (v := 6) hx hb dL_build_62 (by decide) ?_
    refine lv_cst (y := nI 6) rfl ?_
    refine pcS_i (As := [.int (cv xs N 1), .int (nI 6)]) (rest := [.int (nI i)]) ⟨hx, hb, hml, hown, hts⟩ (g_L_below l (v := (cv xs N 1)) (n := 6) (by omega) (by omega)) (va_cwS 2 hts gL_build_L_below rfl rfl rfl hdL_below ⟨Nat.le_of_ble_eq_true rfl, Nat.le_of_ble_eq_true rfl⟩) rfl hl.1 (Nat.le_of_ble_eq_true rfl) rfl dL_build_64 ⟨by show 3 + 2 * i ≤ 3000; omega, by show 4 + 44 * i ≤ 700000; omega⟩ ?_
    refine lv_cst (y := nI n6) en6 ?_
    refine lv_icmp_ge (tgt := 134) hx hb dL_build_67 (by decide) (fun c67 => ?_) (fun c67 => ?_)
    · have hie : i = n6 := gd_ge_t (by omega) hi c67
      subst hie
      clear ih hi0
      refine lv_iconst (v := 0) hx hb dL_build_134 (by decide) ?_
      refine lv_istore (lv' := [(4, .int 0), (3, .int (nI tc)), (2, .ref r0), (0, .ref (q 0)), (1, .ref bS)]) hx hb dL_build_135 hl (by decide) rfl (fun ls hl => ?_)
      obtain ⟨n9, hn9, en9⟩ : ∃ j : Nat, j < 9 ∧ nI (bw (cv xs N 2) 9) = nI j := ⟨_, bw_lt _ (by decide), rfl⟩
      refine W.widen (k := 13 + 300 * 0) (n := 224 + 66000 * 0) (by omega) (by omega) ?_
      refine w_loopG (N := n9) (I := fun i9 ls H locs => lv_has ls 8 [(4, .int (nI i9)), (3, .int (nI tc)), (2, .ref r0), (0, .ref (q 0)), (1, .ref bS)] ∧ XSn D cI cZ cR q r0 A H tc i9 i ∧ va_S A s.heap H locs) (cf := fun i9 => 13 + 300 * i9) (sf := fun i9 => 224 + 66000 * i9) 0 (Nat.zero_le _) ⟨lv_sub hl [0, 1, 2, 3, 4] rfl, hXS, hS⟩ (fun i9 ls H locs hi hi0 hI ih => ?_)
      obtain ⟨hl, hXS, hS⟩ := hI
      refine lv_iload hx hb dL_build_137 (lv_at hl 0 rfl) ?_
      refine lv_aload_n hx hb dL_build_139 rfl (lv_at hl 4 rfl) ?_
      refine lv_iconst (v := 2) hx hb dL_build_140 (by decide) ?_
      refine lv_cst (y := nI 2) rfl ?_
      have hXc : va_X bS N xs s H := hX.kept (hS.2.1 bS hbl hbX)
      have hbH : bS < H.size := Nat.lt_of_lt_of_le hbl hS.1
      refine pcX_i (As := [.ref bS, .int (nI 2)]) (rest := [.int (nI i9)]) ⟨hx, hb, hml, hown, hts⟩ (g_L_cell l hN (by omega) hbH) (va_cwS 2 hts gL_build_L_cell rfl rfl rfl hdL_cell ⟨Nat.le_of_ble_eq_true rfl, Nat.le_of_ble_eq_true rfl⟩) hXc rfl hl.1 (Nat.le_of_ble_eq_true rfl) rfl dL_build_141 ⟨by show 13 + 300 * i9 ≤ 3000; omega, by show 224 + 66000 * i9 ≤ 700000; omega⟩ ?_
      refine lv_bipush (v := 9) hx hb dL_build_144 (by decide) ?_
      refine lv_cst (y := nI 9) rfl ?_
      refine pcS_i (As := [.int (cv xs N 2), .int (nI 9)]) (rest := [.int (nI i9)]) ⟨hx, hb, hml, hown, hts⟩ (g_L_below l (v := (cv xs N 2)) (n := 9) (by omega) (by omega)) (va_cwS 2 hts gL_build_L_below rfl rfl rfl hdL_below ⟨Nat.le_of_ble_eq_true rfl, Nat.le_of_ble_eq_true rfl⟩) rfl hl.1 (Nat.le_of_ble_eq_true rfl) rfl dL_build_146 ⟨by show 13 + 300 * i9 ≤ 3000; omega, by show 224 + 66000 * i9 ≤ 700000; omega⟩ ?_
      refine lv_cst (y := nI n9) en9 ?_
      refine lv_icmp_ge (tgt := 231) hx hb dL_build_149 (by decide) (fun c149 => ?_) (fun c149 => ?_)
      · refine lv_aload_n hx hb dL_build_231 rfl (lv_at hl 2 rfl) ?_
        refine W.widen (k := 3000) (n := 700000) (by omega) (by omega) ?_
        exact W.aret hx hb hr (Or.inl ⟨_, rfl⟩) (Or.inr ⟨_, rfl⟩) (fun t9 ht9 hW9 => ⟨⟨(), r0, rfl, trivial, by show XS D cI cZ cR q r0 A t9.heap; rw [ht9]; exact hXS.toXS⟩, hS.F ht9⟩) hS.2.2 dL_build_232
      · have hlt : i9 < n9 := gd_ge_f hi c149
        obtain ⟨ch, U, Z, B, L, F, r, nr, ar, hr0, hG, hP, hD⟩ := hXS
        obtain ⟨⟨htc1, htc⟩, hnc, hac, hU, hB, hL9, hF9⟩ := id hG
        have hpw := pw_in htc
        subst hr0
        have hP : va_P D vwCl (wX cI cZ q tc i9 i ch U Z B L F ++ wS cI cR r nr ar tc i9 i ch U Z B L F) H := hP
        have hD : va_D A (wX cI cZ q tc i9 i ch U Z B L F ++ wS cI cR r nr ar tc i9 i ch U Z B L F) := hD
        have hPX : va_P D vwCl (wX cI cZ q tc i9 i ch U Z B L F) H := P_l hP
        have hPS : va_P D vwCl (wS cI cR r nr ar tc i9 i ch U Z B L F) H := P_r hP
        have hl : lv_has ls 8 [(4, .int (nI i9)), (3, .int (nI tc)), (2, .ref (r 0)), (0, .ref (q 0)), (1, .ref bS)] := hl
        refine lv_aload_n hx hb dL_build_152 rfl (lv_at hl 4 rfl) ?_
        refine lv_iconst (v := 3) hx hb dL_build_153 (by decide) ?_
        refine lv_iload hx hb dL_build_154 (lv_at hl 0 rfl) ?_
        refine lv_iadd hx hb dL_build_156 ?_
        refine lv_cst (y := nI (3 + i9)) (nI_add 3 _) ?_
        have hXc : va_X bS N xs s H := hX.kept (hS.2.1 bS hbl hbX)
        have hbH : bS < H.size := Nat.lt_of_lt_of_le hbl hS.1
        refine pcX_i (As := [.ref bS, .int (nI (3 + i9))]) (rest := []) ⟨hx, hb, hml, hown, hts⟩ (g_L_cell l hN (by omega) hbH) (va_cwS 2 hts gL_build_L_cell rfl rfl rfl hdL_cell ⟨Nat.le_of_ble_eq_true rfl, Nat.le_of_ble_eq_true rfl⟩) hXc rfl hl.1 (Nat.le_of_ble_eq_true rfl) rfl dL_build_157 ⟨by show 13 + 300 * i9 ≤ 3000; omega, by show 224 + 66000 * i9 ≤ 700000; omega⟩ ?_
        refine lv_istore (lv' := [(5, .int (cv xs N (3 + i9))), (4, .int (nI i9)), (3, .int (nI tc)), (2, .ref (r 0)), (0, .ref (q 0)), (1, .ref bS)]) hx hb dL_build_160 hl (by decide) rfl (fun ls hl => ?_)
        refine lv_iconst (v := 1) hx hb dL_build_162 (by decide) ?_
        refine lv_iload hx hb dL_build_163 (lv_at hl 0 rfl) ?_
        refine lv_aload_n hx hb dL_build_165 rfl (lv_at hl 3 rfl) ?_
        refine pcV_i (As := []) (rest := [.int (cv xs N (3 + i9)), .int 1]) ⟨hx, hb, hml, hown, hts⟩ (g_S_sets l hPS htc hnc hac) (cwV 0 hts gL_build_X1_sets rfl rfl rfl hdX1_sets ⟨Nat.le_of_ble_eq_true rfl, Nat.le_of_ble_eq_true rfl⟩) (va_recv hK hPS (ci := 1) (q0 := 0) rfl rfl) hK rfl hl.1 (Nat.le_of_ble_eq_true rfl) rfl dL_build_166 ⟨by show 13 + 300 * i9 ≤ 3000; omega, by show 224 + 66000 * i9 ≤ 700000; omega⟩ ?_
        refine lv_iconst (v := 1) hx hb dL_build_169 (by decide) ?_
        have hpw2 : 2 ≤ pw tc := by
            have h2 := pw_mono htc1
            exact h2
        refine lv_isub hx hb dL_build_170 ?_
        refine lv_cst (y := nI (pw tc - 1)) (pk_sub (b := 1) hpw.1) ?_
        refine pcS_i (As := [.int (cv xs N (3 + i9)), .int (nI (pw tc - 1))]) (rest := [.int 1]) ⟨hx, hb, hml, hown, hts⟩ (g_L_below l (v := (cv xs N (3 + i9))) (n := (pw tc - 1)) (by omega) (by omega)) (va_cwS 2 hts gL_build_L_below rfl rfl rfl hdL_below ⟨Nat.le_of_ble_eq_true rfl, Nat.le_of_ble_eq_true rfl⟩) rfl hl.1 (Nat.le_of_ble_eq_true rfl) rfl dL_build_171 ⟨by show 13 + 300 * i9 ≤ 3000; omega, by show 224 + 66000 * i9 ≤ 700000; omega⟩ ?_
        obtain ⟨kj, hkj, ekj⟩ : ∃ j : Nat, j < (pw tc - 1) ∧ nI (bw (cv xs N (3 + i9)) (pw tc - 1)) = nI j := ⟨_, bw_lt _ (by omega), rfl⟩
        refine lv_cst (y := nI kj) ekj ?_
        refine lv_iadd hx hb dL_build_174 ?_
        obtain ⟨k, hk0, hk1, ek⟩ : ∃ k : Nat, 1 ≤ k ∧ k < pw tc ∧ 1 + nI kj = nI k := ⟨1 + kj, by omega, by omega, nI_add 1 _⟩
        refine lv_cst (y := nI k) ek ?_
        refine lv_istore (lv' := [(6, .int (nI k)), (5, .int (cv xs N (3 + i9))), (4, .int (nI i9)), (3, .int (nI tc)), (2, .ref (r 0)), (0, .ref (q 0)), (1, .ref bS)]) hx hb dL_build_175 hl (by decide) rfl (fun ls hl => ?_)
        refine lv_iload hx hb dL_build_177 (lv_at hl 0 rfl) ?_
        refine lv_iconst (v := 1) hx hb dL_build_179 (by decide) ?_
        refine lv_aload_n hx hb dL_build_180 rfl (lv_at hl 6 rfl) ?_
        refine lv_iconst (v := 2) hx hb dL_build_181 (by decide) ?_
        refine lv_cst (y := nI 2) rfl ?_
        have hXc : va_X bS N xs s H := hX.kept (hS.2.1 bS hbl hbX)
        have hbH : bS < H.size := Nat.lt_of_lt_of_le hbl hS.1
        refine pcX_i (As := [.ref bS, .int (nI 2)]) (rest := [.int 1, .int (nI k)]) ⟨hx, hb, hml, hown, hts⟩ (g_L_cell l hN (by omega) hbH) (va_cwS 2 hts gL_build_L_cell rfl rfl rfl hdL_cell ⟨Nat.le_of_ble_eq_true rfl, Nat.le_of_ble_eq_true rfl⟩) hXc rfl hl.1 (Nat.le_of_ble_eq_true rfl) rfl dL_build_182 ⟨by show 13 + 300 * i9 ≤ 3000; omega, by show 224 + 66000 * i9 ≤ 700000; omega⟩ ?_
        refine lv_iconst (v := 5) hx hb dL_build_185 (by decide) ?_
        refine lv_ishr hx hb dL_build_186 ?_
        refine lv_bipush (v := 7) hx hb dL_build_187 (by decide) ?_
        refine lv_cst (y := nI 7) rfl ?_
        refine pcS_i (As := [.int ((cv xs N 2) >>> (5 &&& 31)), .int (nI 7)]) (rest := [.int 1, .int (nI k)]) ⟨hx, hb, hml, hown, hts⟩ (g_L_below l (v := ((cv xs N 2) >>> (5 &&& 31))) (n := 7) (by omega) (by omega)) (va_cwS 2 hts gL_build_L_below rfl rfl rfl hdL_below ⟨Nat.le_of_ble_eq_true rfl, Nat.le_of_ble_eq_true rfl⟩) rfl hl.1 (Nat.le_of_ble_eq_true rfl) rfl dL_build_189 ⟨by show 13 + 300 * i9 ≤ 3000; omega, by show 224 + 66000 * i9 ≤ 700000; omega⟩ ?_
        refine lv_iadd hx hb dL_build_192 ?_
        refine lv_cst (y := nI (1 + (bw ((cv xs N 2) >>> (5 &&& 31)) 7))) (nI_add 1 _) ?_
        refine lv_iand hx hb dL_build_193 ?_
        refine lv_bz (t0 := 201) hx hb dL_build_194 dL_build_197 dL_build_198 dL_build_201 (by decide) (by decide) ?_
        obtain ⟨z, ez⟩ : ∃ z : Bool, bI (!(decide ((nI k) &&& (nI (1 + (bw ((cv xs N 2) >>> (5 &&& 31)) 7))) = 0))) = bI z := ⟨!(decide ((nI k) &&& (nI (1 + (bw ((cv xs N 2) >>> (5 &&& 31)) 7))) = 0)), rfl⟩
        refine lv_cst (y := bI z) ez ?_
        refine lv_istore (lv' := [(7, .int (bI z)), (6, .int (nI k)), (5, .int (cv xs N (3 + i9))), (4, .int (nI i9)), (3, .int (nI tc)), (2, .ref (r 0)), (0, .ref (q 0)), (1, .ref bS)]) hx hb dL_build_202 hl (by decide) rfl (fun ls hl => ?_)
        refine lv_aload_n hx hb dL_build_204 rfl (lv_at hl 6 rfl) ?_
        refine lv_iload hx hb dL_build_205 (lv_at hl 1 rfl) ?_
        refine lv_iload hx hb dL_build_207 (lv_at hl 0 rfl) ?_
        refine wcV_i (As := [.int (nI k), .int (bI z)]) (rest := []) ⟨hx, hb, hml, hown, hts⟩ (w_X_writeDown l hPX htc hnc hac (D_l hD) hk0 hk1 (by omega)) (cwV 2 hts gL_build_X0_writeDown rfl rfl rfl hdX0_writeDown ⟨Nat.le_of_ble_eq_true rfl, Nat.le_of_ble_eq_true rfl⟩) (va_recv hKX hPX (ci := 0) (q0 := 0) rfl rfl) hKX hS (fr_l hD hS hA) rfl hl.1 (Nat.le_of_ble_eq_true rfl) rfl dL_build_209 ⟨by show 13 + 300 * i9 ≤ 3000; omega, by show 224 + 66000 * i9 ≤ 700000; omega⟩ (fun H1 locs hP1 hz1 hk1 hS => ?_)
        have hP := up_l hP hD hk1 hP1
        have hD : va_D A (wX cI cZ q tc (i9 + 1) i (ch + nI (ct (sC B L (nI k) z ((spx (fun j => zz (upd U i9 (nI k)) (updB Z i9 z) (i9 + 1) j) (pw tc)).1)) i)) (upd U i9 (nI k)) (updB Z i9 z) (mrg (sB B L (nI k) z ((spx (fun j => zz (upd U i9 (nI k)) (updB Z i9 z) (i9 + 1) j) (pw tc)).1)) B i) (mrg (sL B L F (nI k) z ((spx (fun j => zz (upd U i9 (nI k)) (updB Z i9 z) (i9 + 1) j) (pw tc)).1)) L i) F ++ wS cI cR r nr ar tc i9 i ch U Z B L F) := va_D_re hD rfl
        clear hP1 hk1 hz1 hPX hPS
        generalize H1 = H at hP hS ⊢
        have hP : va_P D vwCl (wX cI cZ q tc (i9 + 1) i (ch + nI (ct (sC B L (nI k) z ((spx (fun j => zz (upd U i9 (nI k)) (updB Z i9 z) (i9 + 1) j) (pw tc)).1)) i)) (upd U i9 (nI k)) (updB Z i9 z) (mrg (sB B L (nI k) z ((spx (fun j => zz (upd U i9 (nI k)) (updB Z i9 z) (i9 + 1) j) (pw tc)).1)) B i) (mrg (sL B L F (nI k) z ((spx (fun j => zz (upd U i9 (nI k)) (updB Z i9 z) (i9 + 1) j) (pw tc)).1)) L i) F ++ wS cI cR r nr ar tc i9 i ch U Z B L F) H := hP
        have hPX : va_P D vwCl (wX cI cZ q tc (i9 + 1) i (ch + nI (ct (sC B L (nI k) z ((spx (fun j => zz (upd U i9 (nI k)) (updB Z i9 z) (i9 + 1) j) (pw tc)).1)) i)) (upd U i9 (nI k)) (updB Z i9 z) (mrg (sB B L (nI k) z ((spx (fun j => zz (upd U i9 (nI k)) (updB Z i9 z) (i9 + 1) j) (pw tc)).1)) B i) (mrg (sL B L F (nI k) z ((spx (fun j => zz (upd U i9 (nI k)) (updB Z i9 z) (i9 + 1) j) (pw tc)).1)) L i) F) H := P_l hP
        have hPS : va_P D vwCl (wS cI cR r nr ar tc i9 i ch U Z B L F) H := P_r hP
        refine lv_aload_n hx hb dL_build_212 rfl (lv_at hl 5 rfl) ?_
        refine lv_iload hx hb dL_build_213 (lv_at hl 1 rfl) ?_
        refine lv_iload hx hb dL_build_215 (lv_at hl 0 rfl) ?_
        have hFr := fr_r hD hS hA
        refine va_calli (va_runV (As := [.int (nI k), .int (bI z)]) (rest := [.int (nI (ct (sC B L (nI k) z ((spx (fun j => zz (upd U i9 (nI k)) (updB Z i9 z) (i9 + 1) j) (pw tc)).1)) i))]) ⟨hx, hb, hml, hown, hts⟩ (w_S_write l hPS htc hnc hac (D_r hD) hU hB hk1 (by omega)) (cwV 2 hts gL_build_X1_write rfl rfl rfl hdX1_write ⟨Nat.le_of_ble_eq_true rfl, Nat.le_of_ble_eq_true rfl⟩) ⟨rdo_blind, (va_recv hK hPS (ci := 1) (q0 := 0) rfl rfl), rdo_pre hK hov⟩ rfl rfl hl.1 rfl (lv_room (Nat.le_of_ble_eq_true rfl)) dL_build_217 ⟨by show 13 + 300 * i9 + 300 ≤ 3000; omega, by show 224 + 66000 * i9 + 66000 ≤ 700000; omega⟩) hS (fun z _ h => hFr z h) hFr (fun r9 u t9 H1 locs ht9 hvm9 hw9 hB9 hz1 hk1 hS => ?_)
        obtain ⟨q9, b9, hP9, hD9⟩ := hB9
        rw [ht9] at hP9
        subst hw9
        have hD1 := up_rD hP hD hFr hD9
        have hP := up_r hP hD hk1 hP9
        have hD : va_D A (wX cI cZ q tc (i9 + 1) i (ch + nI (ct (sC B L (nI k) z ((spx (fun j => zz (upd U i9 (nI k)) (updB Z i9 z) (i9 + 1) j) (pw tc)).1)) i)) (upd U i9 (nI k)) (updB Z i9 z) (mrg (sB B L (nI k) z ((spx (fun j => zz (upd U i9 (nI k)) (updB Z i9 z) (i9 + 1) j) (pw tc)).1)) B i) (mrg (sL B L F (nI k) z ((spx (fun j => zz (upd U i9 (nI k)) (updB Z i9 z) (i9 + 1) j) (pw tc)).1)) L i) F ++ wS cI cR (rr r 1 q9) (va_up nr i9 b9) ar tc (i9 + 1) i (ch + nI (ct (sC B L (nI k) z ((spx (fun j => zz (upd U i9 (nI k)) (updB Z i9 z) (i9 + 1) j) (pw tc)).1)) i)) (upd U i9 (nI k)) (updB Z i9 z) (mrg (sB B L (nI k) z ((spx (fun j => zz (upd U i9 (nI k)) (updB Z i9 z) (i9 + 1) j) (pw tc)).1)) B i) (mrg (sL B L F (nI k) z ((spx (fun j => zz (upd U i9 (nI k)) (updB Z i9 z) (i9 + 1) j) (pw tc)).1)) L i) F) := hD1
        clear hP9 hk1 hz1 hPX hPS hD1 hD9 hFr
        generalize H1 = H at hP hS ⊢
        have hP : va_P D vwCl (wX cI cZ q tc (i9 + 1) i (ch + nI (ct (sC B L (nI k) z ((spx (fun j => zz (upd U i9 (nI k)) (updB Z i9 z) (i9 + 1) j) (pw tc)).1)) i)) (upd U i9 (nI k)) (updB Z i9 z) (mrg (sB B L (nI k) z ((spx (fun j => zz (upd U i9 (nI k)) (updB Z i9 z) (i9 + 1) j) (pw tc)).1)) B i) (mrg (sL B L F (nI k) z ((spx (fun j => zz (upd U i9 (nI k)) (updB Z i9 z) (i9 + 1) j) (pw tc)).1)) L i) F ++ wS cI cR (rr r 1 q9) (va_up nr i9 b9) ar tc (i9 + 1) i (ch + nI (ct (sC B L (nI k) z ((spx (fun j => zz (upd U i9 (nI k)) (updB Z i9 z) (i9 + 1) j) (pw tc)).1)) i)) (upd U i9 (nI k)) (updB Z i9 z) (mrg (sB B L (nI k) z ((spx (fun j => zz (upd U i9 (nI k)) (updB Z i9 z) (i9 + 1) j) (pw tc)).1)) B i) (mrg (sL B L F (nI k) z ((spx (fun j => zz (upd U i9 (nI k)) (updB Z i9 z) (i9 + 1) j) (pw tc)).1)) L i) F) H := hP
        have hPX : va_P D vwCl (wX cI cZ q tc (i9 + 1) i (ch + nI (ct (sC B L (nI k) z ((spx (fun j => zz (upd U i9 (nI k)) (updB Z i9 z) (i9 + 1) j) (pw tc)).1)) i)) (upd U i9 (nI k)) (updB Z i9 z) (mrg (sB B L (nI k) z ((spx (fun j => zz (upd U i9 (nI k)) (updB Z i9 z) (i9 + 1) j) (pw tc)).1)) B i) (mrg (sL B L F (nI k) z ((spx (fun j => zz (upd U i9 (nI k)) (updB Z i9 z) (i9 + 1) j) (pw tc)).1)) L i) F) H := P_l hP
        have hPS : va_P D vwCl (wS cI cR (rr r 1 q9) (va_up nr i9 b9) ar tc (i9 + 1) i (ch + nI (ct (sC B L (nI k) z ((spx (fun j => zz (upd U i9 (nI k)) (updB Z i9 z) (i9 + 1) j) (pw tc)).1)) i)) (upd U i9 (nI k)) (updB Z i9 z) (mrg (sB B L (nI k) z ((spx (fun j => zz (upd U i9 (nI k)) (updB Z i9 z) (i9 + 1) j) (pw tc)).1)) B i) (mrg (sL B L F (nI k) z ((spx (fun j => zz (upd U i9 (nI k)) (updB Z i9 z) (i9 + 1) j) (pw tc)).1)) L i) F) H := P_r hP
        have hl : lv_has ls 8 [(7, .int (bI z)), (6, .int (nI k)), (5, .int (cv xs N (3 + i9))), (4, .int (nI i9)), (3, .int (nI tc)), (2, .ref ((rr r 1 q9) 0)), (0, .ref (q 0)), (1, .ref bS)] := hl
        refine lv_icmp_eq (tgt := 225) hx hb dL_build_220 (by decide) (fun c220 => ?_) (fun c220 => absurd rfl c220)
        refine lv_iinc (v := nI (i9 + 1)) (lv' := [(4, .int (nI (i9 + 1))), (7, .int (bI z)), (6, .int (nI k)), (5, .int (cv xs N (3 + i9))), (3, .int (nI tc)), (2, .ref ((rr r 1 q9) 0)), (0, .ref (q 0)), (1, .ref bS)]) hx hb dL_build_225 hl (k := 3) rfl (nI_1 _) (by decide) rfl (fun ls hl => ?_)
        refine lv_goto (tgt := 137) hx hb dL_build_228 (by decide) ?_
        have hl := lv_sub (l' := [(4, .int (nI (i9 + 1))), (3, .int (nI tc)), (2, .ref ((rr r 1 q9) 0)), (0, .ref (q 0)), (1, .ref bS)]) hl [0, 4, 5, 6, 7] rfl
        refine W.widen (k := 13 + 300 * (i9 + 1)) (n := 224 + 66000 * (i9 + 1)) (by omega) (by omega) ?_
        exact ih ls _ _ hlt ⟨hl, ⟨_, _, _, _, _, _, (rr r 1 q9), _, _, rfl, gd_write hG (by omega) hk1 z, hP, hD⟩, hS⟩
    · have hlt : i < n6 := gd_ge_f hi c67
      obtain ⟨ch, U, Z, B, L, F, r, nr, ar, hr0, hG, hP, hD⟩ := hXS
      obtain ⟨⟨htc1, htc⟩, hnc, hac, hU, hB, hL9, hF9⟩ := id hG
      have hpw := pw_in htc
      subst hr0
      have hP : va_P D vwCl (wX cI cZ q tc 0 i ch U Z B L F ++ wS cI cR r nr ar tc 0 i ch U Z B L F) H := hP
      have hD : va_D A (wX cI cZ q tc 0 i ch U Z B L F ++ wS cI cR r nr ar tc 0 i ch U Z B L F) := hD
      have hPX : va_P D vwCl (wX cI cZ q tc 0 i ch U Z B L F) H := P_l hP
      have hPS : va_P D vwCl (wS cI cR r nr ar tc 0 i ch U Z B L F) H := P_r hP
      have hl : lv_has ls 8 [(4, .int (nI i)), (3, .int (nI tc)), (2, .ref (r 0)), (0, .ref (q 0)), (1, .ref bS)] := hl
      refine lv_aload_n hx hb dL_build_70 rfl (lv_at hl 4 rfl) ?_
      refine lv_iconst (v := 1) hx hb dL_build_71 (by decide) ?_
      refine lv_cst (y := nI 1) rfl ?_
      have hXc : va_X bS N xs s H := hX.kept (hS.2.1 bS hbl hbX)
      have hbH : bS < H.size := Nat.lt_of_lt_of_le hbl hS.1
      refine pcX_i (As := [.ref bS, .int (nI 1)]) (rest := []) ⟨hx, hb, hml, hown, hts⟩ (g_L_cell l hN (by omega) hbH) (va_cwS 2 hts gL_build_L_cell rfl rfl rfl hdL_cell ⟨Nat.le_of_ble_eq_true rfl, Nat.le_of_ble_eq_true rfl⟩) hXc rfl hl.1 (Nat.le_of_ble_eq_true rfl) rfl dL_build_72 ⟨by show 3 + 2 * i ≤ 3000; omega, by show 4 + 44 * i ≤ 700000; omega⟩ ?_
      refine lv_iconst (v := 2) hx hb dL_build_75 (by decide) ?_
      refine lv_iload hx hb dL_build_76 (lv_at hl 0 rfl) ?_
      refine lv_imul hx hb dL_build_78 ?_
      refine lv_ishr hx hb dL_build_79 ?_
      refine lv_bipush (v := 6) hx hb dL_build_80 (by decide) ?_
      refine lv_cst (y := nI 6) rfl ?_
      refine pcS_i (As := [.int ((cv xs N 1) >>> ((2 * (nI i)) &&& 31)), .int (nI 6)]) (rest := []) ⟨hx, hb, hml, hown, hts⟩ (g_L_below l (v := ((cv xs N 1) >>> ((2 * (nI i)) &&& 31))) (n := 6) (by omega) (by omega)) (va_cwS 2 hts gL_build_L_below rfl rfl rfl hdL_below ⟨Nat.le_of_ble_eq_true rfl, Nat.le_of_ble_eq_true rfl⟩) rfl hl.1 (Nat.le_of_ble_eq_true rfl) rfl dL_build_82 ⟨by show 3 + 2 * i ≤ 3000; omega, by show 4 + 44 * i ≤ 700000; omega⟩ ?_
      obtain ⟨jv, hjv, ejv⟩ : ∃ j : Nat, j < 6 ∧ nI (bw ((cv xs N 1) >>> ((2 * (nI i)) &&& 31)) 6) = nI j := ⟨_, bw_lt _ (by omega), rfl⟩
      refine lv_cst (y := nI jv) ejv ?_
      refine lv_istore (lv' := [(5, .int (nI jv)), (4, .int (nI i)), (3, .int (nI tc)), (2, .ref (r 0)), (0, .ref (q 0)), (1, .ref bS)]) hx hb dL_build_85 hl (by decide) rfl (fun ls hl => ?_)
      refine lv_aload_n hx hb dL_build_87 rfl (lv_at hl 3 rfl) ?_
      refine lv_aload_n hx hb dL_build_88 rfl (lv_at hl 3 rfl) ?_
      refine va_get (D := D) (ci := 1) (v := .ref (r 2)) (C := RX1) (T := TX1) (N := 4) hx hb hts hin hown hK hPS 0 rfl rfl 2 (by decide) (hts (.fieldLink RL 30 "SmudgedStarLaw$Sim" "astronomers" "[[I") (List.mem_of_getElem? (i := 5) rfl)) (fun _ h9 => h9) rfl dL_build_89 ?_
      refine lv_iconst (v := 3) hx hb dL_build_92 (by decide) ?_
      refine va_newa (atype := .int) (ty := .int) (N' := 3) (a0 := (3, .inl (fun _ => 0))) hx hb (hts (.arrayClass .int) (List.mem_of_getElem? (i := 6) rfl)) rfl hK hP hD hS hA (fun _ => rfl) (by decide) rfl (Nat.le_of_ble_eq_true rfl) (by show 3 + 2 * i + 1 ≤ 3000; omega) (by show 4 + 44 * i + 3 ≤ 700000; omega) dL_build_93 (fun b k1 H hK1 hP hD hS => ?_)
      have e1 : cI = k1 := ty_uniq hK1 (i := 0) (j := 2) rfl rfl
      subst e1
      have hP : va_P D vwCl ((wX cI cZ q tc 0 i ch U Z B L F ++ wS cI cR r nr ar tc 0 i ch U Z B L F) ++ [(b, .inl (cI, 3, .inl (fun _ => 0)))]) H := hP
      have hD : va_D A ((wX cI cZ q tc 0 i ch U Z B L F ++ wS cI cR r nr ar tc 0 i ch U Z B L F) ++ [(b, .inl (cI, 3, .inl (fun _ => 0)))]) := hD
      have hPX : va_P D vwCl (wX cI cZ q tc 0 i ch U Z B L F) H := P_l (P_l hP)
      have hPS : va_P D vwCl (wS cI cR r nr ar tc 0 i ch U Z B L F) H := P_r (P_l hP)
      refine lv_dup hx hb dL_build_95 rfl ?_
      refine lv_iconst (v := 0) hx hb dL_build_96 (by decide) ?_
      refine lv_iconst (v := 0) hx hb dL_build_97 (by decide) ?_
      refine il_st hx hb hK hP hD hS 0 rfl (j := 0) nI_0.symm (by decide) (by decide) dL_build_98 (fun H locs hP hD hS => ?_)
      have hP : va_P D vwCl ((wX cI cZ q tc 0 i ch U Z B L F ++ wS cI cR r nr ar tc 0 i ch U Z B L F) ++ [(b, .inl (cI, 3, .inl (upd (fun _ => 0) 0 0)))]) H := hP
      have hD : va_D A ((wX cI cZ q tc 0 i ch U Z B L F ++ wS cI cR r nr ar tc 0 i ch U Z B L F) ++ [(b, .inl (cI, 3, .inl (upd (fun _ => 0) 0 0)))]) := hD
      have hPX : va_P D vwCl (wX cI cZ q tc 0 i ch U Z B L F) H := P_l (P_l hP)
      have hPS : va_P D vwCl (wS cI cR r nr ar tc 0 i ch U Z B L F) H := P_r (P_l hP)
      refine lv_dup hx hb dL_build_99 rfl ?_
      refine lv_iconst (v := 1) hx hb dL_build_100 (by decide) ?_
      refine lv_iload hx hb dL_build_101 (lv_at hl 0 rfl) ?_
      refine il_st hx hb hK hP hD hS 0 rfl (j := 1) rfl (by decide) (by decide) dL_build_103 (fun H locs hP hD hS => ?_)
      have hP : va_P D vwCl ((wX cI cZ q tc 0 i ch U Z B L F ++ wS cI cR r nr ar tc 0 i ch U Z B L F) ++ [(b, .inl (cI, 3, .inl (upd (upd (fun _ => 0) 0 0) 1 (nI jv))))]) H := hP
      have hD : va_D A ((wX cI cZ q tc 0 i ch U Z B L F ++ wS cI cR r nr ar tc 0 i ch U Z B L F) ++ [(b, .inl (cI, 3, .inl (upd (upd (fun _ => 0) 0 0) 1 (nI jv))))]) := hD
      have hPX : va_P D vwCl (wX cI cZ q tc 0 i ch U Z B L F) H := P_l (P_l hP)
      have hPS : va_P D vwCl (wS cI cR r nr ar tc 0 i ch U Z B L F) H := P_r (P_l hP)
      refine lv_dup hx hb dL_build_104 rfl ?_
      refine lv_iconst (v := 2) hx hb dL_build_105 (by decide) ?_
      refine lv_iload hx hb dL_build_106 (lv_at hl 0 rfl) ?_
      refine il_st hx hb hK hP hD hS 0 rfl (j := 2) rfl (by decide) (by decide) dL_build_108 (fun H locs hP hD hS => ?_)
      have hP : va_P D vwCl ((wX cI cZ q tc 0 i ch U Z B L F ++ wS cI cR r nr ar tc 0 i ch U Z B L F) ++ [(b, .inl (cI, 3, .inl (upd (upd (upd (fun _ => 0) 0 0) 1 (nI jv)) 2 (nI jv))))]) H := hP
      have hD : va_D A ((wX cI cZ q tc 0 i ch U Z B L F ++ wS cI cR r nr ar tc 0 i ch U Z B L F) ++ [(b, .inl (cI, 3, .inl (upd (upd (upd (fun _ => 0) 0 0) 1 (nI jv)) 2 (nI jv))))]) := hD
      have hPX : va_P D vwCl (wX cI cZ q tc 0 i ch U Z B L F) H := P_l (P_l hP)
      have hPS : va_P D vwCl (wS cI cR r nr ar tc 0 i ch U Z B L F) H := P_r (P_l hP)
      have hP : va_P D vwCl ((wX cI cZ q tc 0 i ch U Z B L F ++ wS cI cR r nr ar tc 0 i ch U Z B L F) ++ [(b, .inl (cI, 3, .inl (r3 0 (nI jv) (nI jv))))]) H := P_lasti hP (fun j hj => r3_of hj)
      have hD : va_D A ((wX cI cZ q tc 0 i ch U Z B L F ++ wS cI cR r nr ar tc 0 i ch U Z B L F) ++ [(b, .inl (cI, 3, .inl (r3 0 (nI jv) (nI jv))))]) := D_last hD
      have hF : ∀ z : Nat, H.size ≤ z → A z := fun z h => hA z (Nat.le_trans hS.1 h)
      have hf : ∀ j, j < i → ∃ (nv : Nat) (fv : Nat → Int32), H[ar j]? = some (vp_cell cI (nv, .inl fv)) := fun j hj => ⟨3, _, hPS _ _ (wS_a hj)⟩
      refine va_callr (va_runS (As := [.ref (r 2), .ref b]) (rest := [.ref (r 0)]) ⟨hx, hb, hml, hown, hts⟩ (w_S_with l (P_two (hPS 2 _ rfl) (hP _ _ (last_at _ _))) hf (by omega)) (va_cwS 2 hts gL_build_X1_with rfl rfl rfl hdX1_with ⟨Nat.le_of_ble_eq_true rfl, Nat.le_of_ble_eq_true rfl⟩) ⟨rdo_blind, rdo_pre hK hov⟩ rfl rfl hl.1 rfl (lv_room (Nat.le_of_ble_eq_true rfl)) dL_build_109 ⟨by show 3 + 2 * i + 1 + 1 ≤ 3000; omega, by show 4 + 44 * i + 3 + 41 ≤ 700000; omega⟩) hS (fun z _ h => hF z h) hF (fun u q9 t9 H1 locs ht9 hvm9 hw9 hB9 hz1 hk1 hS => ?_)
      obtain ⟨hq9a, hP9⟩ := hB9
      rw [ht9] at hP9
      have hk2 : ∀ z : Nat, z < H.size → H1[z]? = H[z]? := fun z h => hk1 z h (Nat.not_le.mpr h)
      have hD := D_push (e := .inl (cR, i + 1, rf (va_up ar i b))) hD hP hq9a (hF _ hq9a)
      have hP := (grow_P hP hk2).app hP9
      rw [List.append_assoc, List.append_assoc] at hP hD
      have hP : va_P D vwCl (wX cI cZ q tc 0 i ch U Z B L F ++ (wS cI cR r nr ar tc 0 i ch U Z B L F ++ [(b, .inl (cI, 3, .inl (r3 0 (nI jv) (nI jv)))), (q9, .inl (cR, i + 1, rf (va_up ar i b)))])) H1 := hP
      have hD : va_D A (wX cI cZ q tc 0 i ch U Z B L F ++ (wS cI cR r nr ar tc 0 i ch U Z B L F ++ [(b, .inl (cI, 3, .inl (r3 0 (nI jv) (nI jv)))), (q9, .inl (cR, i + 1, rf (va_up ar i b)))])) := hD
      clear hP9 hk1 hk2 hz1 hPX hPS
      generalize H1 = H at hP hS ⊢
      refine va_put (D := D) (ci := 1) (v := .ref q9) (ty := .array (.array .int)) (C := RX1) (T := TX1) (N := 4) hx hb hts hin tyX1 tyX1_ok nmX1 hown hK hP hD hS 7 rfl rfl 2 (by decide) (hts (.fieldLink RL 30 "SmudgedStarLaw$Sim" "astronomers" "[[I") (List.mem_of_getElem? (i := 5) rfl)) (fun _ h9 => h9) rfl (by decide +kernel) rfl rfl (Nat.le_of_ble_eq_true rfl) dL_build_112 (fun H locs hP hD hS => ?_)
      obtain ⟨hP, hD⟩ := re_PDl (wl := wX cI cZ q tc 0 i ch U Z B L F) (w' := wS cI cR (rr r 2 q9) nr (va_up ar i b) tc 0 (i + 1) ch U Z (upd B i 0) (upd L i (nI jv)) (upd F i (nI jv))) (gA 0 i) hP hD pushA_g (fun i j h1 h2 => pushA_i i j (by rw [wS_len] at h1; exact h1) (by rw [wS_len] at h2; exact h2))
      have hl : lv_has ls 8 [(5, .int (nI jv)), (4, .int (nI i)), (3, .int (nI tc)), (2, .ref ((rr r 2 q9) 0)), (0, .ref (q 0)), (1, .ref bS)] := hl
      have hP : va_P D vwCl (wX cI cZ q tc 0 i ch U Z B L F ++ wS cI cR (rr r 2 q9) nr (va_up ar i b) tc 0 (i + 1) ch U Z (upd B i 0) (upd L i (nI jv)) (upd F i (nI jv))) H := hP
      have hD : va_D A (wX cI cZ q tc 0 i ch U Z B L F ++ wS cI cR (rr r 2 q9) nr (va_up ar i b) tc 0 (i + 1) ch U Z (upd B i 0) (upd L i (nI jv)) (upd F i (nI jv))) := hD
      have hPX : va_P D vwCl (wX cI cZ q tc 0 i ch U Z B L F) H := P_l hP
      have hPS : va_P D vwCl (wS cI cR (rr r 2 q9) nr (va_up ar i b) tc 0 (i + 1) ch U Z (upd B i 0) (upd L i (nI jv)) (upd F i (nI jv))) H := P_r hP
      refine lv_aload_n hx hb dL_build_115 rfl (lv_at hl 4 rfl) ?_
      refine lv_iload hx hb dL_build_116 (lv_at hl 0 rfl) ?_
      refine wcV_i (As := [.int (nI jv)]) (rest := []) ⟨hx, hb, hml, hown, hts⟩ (w_X_addAstronomer l hPX htc hnc hac (D_l hD) (nI_pos (by omega)) (fI_le (by omega)) (by omega)) (cwV 1 hts gL_build_X0_addAstronomer rfl rfl rfl hdX0_addAstronomer ⟨Nat.le_of_ble_eq_true rfl, Nat.le_of_ble_eq_true rfl⟩) (va_recv hKX hPX (ci := 0) (q0 := 0) rfl rfl) hKX hS (fr_l hD hS hA) rfl hl.1 (Nat.le_of_ble_eq_true rfl) rfl dL_build_118 ⟨by show 3 + 2 * i + 2 ≤ 3000; omega, by show 4 + 44 * i + 44 ≤ 700000; omega⟩ (fun H1 locs hP1 hz1 hk1 hS => ?_)
      have hP := up_l hP hD hk1 hP1
      have hD : va_D A (wX cI cZ q tc 0 (i + 1) ch U Z (upd B i 0) (upd L i (upd F i (nI jv) i)) (upd F i (nI jv)) ++ wS cI cR (rr r 2 q9) nr (va_up ar i b) tc 0 (i + 1) ch U Z (upd B i 0) (upd L i (nI jv)) (upd F i (nI jv))) := va_D_re hD rfl
      clear hP1 hk1 hz1 hPX hPS
      generalize H1 = H at hP hS ⊢
      have hP : va_P D vwCl (wX cI cZ q tc 0 (i + 1) ch U Z (upd B i 0) (upd L i (upd F i (nI jv) i)) (upd F i (nI jv)) ++ wS cI cR (rr r 2 q9) nr (va_up ar i b) tc 0 (i + 1) ch U Z (upd B i 0) (upd L i (nI jv)) (upd F i (nI jv))) H := hP
      have hPX : va_P D vwCl (wX cI cZ q tc 0 (i + 1) ch U Z (upd B i 0) (upd L i (upd F i (nI jv) i)) (upd F i (nI jv))) H := P_l hP
      have hPS : va_P D vwCl (wS cI cR (rr r 2 q9) nr (va_up ar i b) tc 0 (i + 1) ch U Z (upd B i 0) (upd L i (nI jv)) (upd F i (nI jv))) H := P_r hP
      rw [show upd F i (nI jv) i = nI jv from pk_us] at hP hD hPX
      have hP : va_P D vwCl (wX cI cZ q tc 0 (i + 1) ch U Z (upd B i 0) (upd L i (nI jv)) (upd F i (nI jv)) ++ wS cI cR (rr r 2 q9) nr (va_up ar i b) tc 0 (i + 1) ch U Z (upd B i 0) (upd L i (nI jv)) (upd F i (nI jv))) H := hP
      have hD : va_D A (wX cI cZ q tc 0 (i + 1) ch U Z (upd B i 0) (upd L i (nI jv)) (upd F i (nI jv)) ++ wS cI cR (rr r 2 q9) nr (va_up ar i b) tc 0 (i + 1) ch U Z (upd B i 0) (upd L i (nI jv)) (upd F i (nI jv))) := hD
      have hPX : va_P D vwCl (wX cI cZ q tc 0 (i + 1) ch U Z (upd B i 0) (upd L i (nI jv)) (upd F i (nI jv))) H := P_l hP
      have hPS : va_P D vwCl (wS cI cR (rr r 2 q9) nr (va_up ar i b) tc 0 (i + 1) ch U Z (upd B i 0) (upd L i (nI jv)) (upd F i (nI jv))) H := P_r hP
      refine lv_iload hx hb dL_build_121 (lv_at hl 1 rfl) ?_
      refine lv_icmp_eq (tgt := 128) hx hb dL_build_123 (by decide) (fun c123 => ?_) (fun c123 => absurd rfl c123)
      refine lv_iinc (v := nI (i + 1)) (lv' := [(4, .int (nI (i + 1))), (5, .int (nI jv)), (3, .int (nI tc)), (2, .ref ((rr r 2 q9) 0)), (0, .ref (q 0)), (1, .ref bS)]) hx hb dL_build_128 hl (k := 1) rfl (nI_1 _) (by decide) rfl (fun ls hl => ?_)
      refine lv_goto (tgt := 55) hx hb dL_build_131 (by decide) ?_
      have hl := lv_sub (l' := [(4, .int (nI (i + 1))), (3, .int (nI tc)), (2, .ref ((rr r 2 q9) 0)), (0, .ref (q 0)), (1, .ref bS)]) hl [0, 2, 3, 4, 5] rfl
      refine W.widen (k := 3 + 2 * (i + 1)) (n := 4 + 44 * (i + 1)) (by omega) (by omega) ?_
      exact ih ls _ _ hlt ⟨hl, ⟨ch, U, Z, _, _, _, (rr r 2 q9), nr, _, rfl, gd_astr hG (by omega) (v := jv) (by omega), hP, hD⟩, hS⟩
  · have hlt : i < tc := gd_ge_f hi c27
    refine lv_aload_n hx hb dL_build_30 rfl (lv_at hl 3 rfl) ?_
    refine wcV_i (As := []) (rest := []) ⟨hx, hb, hml, hown, hts⟩ (w_X_addThing l hPX (by omega) (by decide) (by decide) (D_l hD) (by omega)) (cwV 0 hts gL_build_X0_addThing rfl rfl rfl hdX0_addThing ⟨Nat.le_of_ble_eq_true rfl, Nat.le_of_ble_eq_true rfl⟩) (va_recv hKX hPX (ci := 0) (q0 := 0) rfl rfl) hKX hS (fr_l hD hS hA) rfl hl.1 (Nat.le_of_ble_eq_true rfl) rfl dL_build_31 ⟨Nat.le_of_ble_eq_true rfl, Nat.le_of_ble_eq_true rfl⟩ (fun H1 locs hP1 hz1 hk1 hS => ?_)
    have hP := up_l hP hD hk1 hP1
    have hD : va_D A (wX cI cZ q (i + 1) 0 0 0 (fun _ => 0) (fun _ => false) (fun _ => 0) (fun _ => 0) (fun _ => 0) ++ wS cI cR r (fun _ => 0) (fun _ => 0) 0 0 0 0 (fun _ => 0) (fun _ => false) (fun _ => 0) (fun _ => 0) (fun _ => 0)) := va_D_re hD rfl
    clear hP1 hk1 hz1 hPX hPS
    generalize H1 = H at hP hS ⊢
    have hP : va_P D vwCl (wX cI cZ q (i + 1) 0 0 0 (fun _ => 0) (fun _ => false) (fun _ => 0) (fun _ => 0) (fun _ => 0) ++ wS cI cR r (fun _ => 0) (fun _ => 0) 0 0 0 0 (fun _ => 0) (fun _ => false) (fun _ => 0) (fun _ => 0) (fun _ => 0)) H := hP
    have hPX : va_P D vwCl (wX cI cZ q (i + 1) 0 0 0 (fun _ => 0) (fun _ => false) (fun _ => 0) (fun _ => 0) (fun _ => 0)) H := P_l hP
    have hPS : va_P D vwCl (wS cI cR r (fun _ => 0) (fun _ => 0) 0 0 0 0 (fun _ => 0) (fun _ => false) (fun _ => 0) (fun _ => 0) (fun _ => 0)) H := P_r hP
    refine lv_iload hx hb dL_build_34 (lv_at hl 0 rfl) ?_
    refine lv_icmp_eq (tgt := 41) hx hb dL_build_36 (by decide) (fun c36 => ?_) (fun c36 => absurd rfl c36)
    refine lv_iinc (v := nI (i + 1)) (lv' := [(4, .int (nI (i + 1))), (3, .int (nI tc)), (2, .ref (r 0)), (0, .ref (q 0)), (1, .ref bS)]) hx hb dL_build_41 hl (k := 0) rfl (nI_1 _) (by decide) rfl (fun ls hl => ?_)
    refine lv_goto (tgt := 24) hx hb dL_build_44 (by decide) ?_
    have hl := lv_sub (l' := [(4, .int (nI (i + 1))), (3, .int (nI tc)), (2, .ref (r 0)), (0, .ref (q 0)), (1, .ref bS)]) hl [0, 1, 2, 3, 4] rfl
    exact ih ls _ _ hlt ⟨hl, hP, hD, hS⟩
