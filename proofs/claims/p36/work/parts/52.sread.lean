/-! the hand-made quarrel: contracts of its methods that read -/
set_option maxHeartbeats 4000000 in
set_option maxRecDepth 100000 in
theorem g_S_isIn (l : Launch) {k t : Nat} (hk : k < 2 ^ 31) (ht : t < 32) : Met l yX1_isIn wsX1_isIn ({ frames := 0, cells := 0, slots := 0, locals := 0 }) (va_Pc [.int (nI k), .int (nI t)] (fun _ => True)) (vp_Si (fun r => r = bI (ho (nI k) (nI t)))) 0 0 (fun _ => False) := by
  refine Met.ofW (cc := cX1_isIn) (maxL := 4) (ret := (some .boolean)) (by decide) rfl ?_
  intro p e s m args below meth c s₁ B9 hml hv
  obtain ⟨rfl, -⟩ := hv
  have hx := B9.exec
  have hb := B9.bytes
  have hr := B9.returns
  have hts := atoms_spec (ws := wsX1_isIn) B9.pre
  have hown : s.vm.findClass RX1 = some m.cls := findClass_of_methodNamed B9.named
  have hlocks := B9.notSynchronized
  have hl := lv_entry ([.int (nI k), .int (nI t)]) (n := 4) (Nat.le_of_ble_eq_true rfl)
  rw [lg_entry_eq]
  generalize (lg_sl ([.int (nI k), .int (nI t)]) ++ List.replicate (4 - (lg_sl ([.int (nI k), .int (nI t)])).length) Slot.unset).toArray = ls at hl ⊢
  have hl : lv_has ls 4 [(0, .int (nI k)), (1, .int (nI t))] := hl
  refine lv_iload_n hx hb dX1_isIn_0 rfl (lv_at hl 0 rfl) ?_
  refine lv_cst (y := nI (k / 2 ^ 0)) (by rw [Nat.pow_zero, Nat.div_one]) ?_
  refine lv_istore_n (lv' := [(2, .int (nI (k / 2 ^ 0))), (0, .int (nI k)), (1, .int (nI t))]) hx hb dX1_isIn_1 rfl hl (by decide) rfl (fun ls hl => ?_)
  refine lv_iconst (v := 0) hx hb dX1_isIn_2 (by decide) ?_
  refine lv_istore_n (lv' := [(3, .int 0), (2, .int (nI (k / 2 ^ 0))), (0, .int (nI k)), (1, .int (nI t))]) hx hb dX1_isIn_3 rfl hl (by decide) rfl (fun ls hl => ?_)
  refine w_loop (N := t) (T := fun i => [(3, .int (nI i)), (2, .int (nI (k / 2 ^ i))), (0, .int (nI k)), (1, .int (nI t))]) (I := fun _ => True) 0 (Nat.zero_le _) trivial (lv_sub hl [0, 1, 2, 3] rfl) (fun i ls hi hI hl ih => ?_)
  have hl : lv_has ls 4 [(3, .int (nI i)), (2, .int (nI (k / 2 ^ i))), (0, .int (nI k)), (1, .int (nI t))] := hl
  refine lv_iload_n hx hb dX1_isIn_4 rfl (lv_at hl 0 rfl) ?_
  refine lv_iload_n hx hb dX1_isIn_5 rfl (lv_at hl 3 rfl) ?_
  refine lv_icmp_ge (tgt := 19) hx hb dX1_isIn_6 (by decide) (fun c6 => ?_) (fun c6 => ?_)
  · skip
    have hie : i = t := gd_ge_t (by omega) hi c6
    rw [hie] at hl
    refine lv_iload_n hx hb dX1_isIn_19 rfl (lv_at hl 1 rfl) ?_
    refine lv_iconst (v := 2) hx hb dX1_isIn_20 (by decide) ?_
    refine lv_irem hx hb dX1_isIn_21 (by decide) ?_
    refine lv_cst (y := nI (k / 2 ^ t % 2)) (rem_2 (Nat.lt_of_le_of_lt (Nat.div_le_self _ _) hk)) ?_
    refine lv_iconst (v := 1) hx hb dX1_isIn_22 (by decide) ?_
    refine lv_icmp_ne (tgt := 30) hx hb dX1_isIn_23 (by decide) (fun c23 => ?_) (fun c23 => ?_)
    · skip
      refine lv_iconst (v := 0) hx hb dX1_isIn_30 (by decide) ?_
      exact W.zret (v := 0) (ty := .boolean) hx hb hr (rfl) (fun t9 ht9 hW9 => ⟨0, rfl, (by rw [← isin_ho ht hk, decide_eq_false c23]; rfl), ht9⟩) (fun _ h => absurd h List.not_mem_nil) dX1_isIn_31
    · skip
      refine lv_iconst (v := 1) hx hb dX1_isIn_26 (by decide) ?_
      refine lv_goto (tgt := 31) hx hb dX1_isIn_27 (by decide) ?_
      exact W.zret (v := 1) (ty := .boolean) hx hb hr (rfl) (fun t9 ht9 hW9 => ⟨1, rfl, (by rw [← isin_ho ht hk, decide_eq_true c23]; rfl), ht9⟩) (fun _ h => absurd h List.not_mem_nil) dX1_isIn_31
  · skip
    have hlt : i < t := gd_ge_f hi c6
    refine lv_iload_n hx hb dX1_isIn_9 rfl (lv_at hl 1 rfl) ?_
    refine lv_iconst (v := 2) hx hb dX1_isIn_10 (by decide) ?_
    refine lv_idiv hx hb dX1_isIn_11 (by decide) ?_
    refine lv_istore_n (lv' := [(2, .int ((nI (k / 2 ^ i)) / 2)), (3, .int (nI i)), (0, .int (nI k)), (1, .int (nI t))]) hx hb dX1_isIn_12 rfl hl (by decide) rfl (fun ls hl => ?_)
    refine lv_iinc (v := nI (i + 1)) (lv' := [(3, .int (nI (i + 1))), (2, .int ((nI (k / 2 ^ i)) / 2)), (0, .int (nI k)), (1, .int (nI t))]) hx hb dX1_isIn_13 hl (k := 1) rfl (nI_1 _) (by decide) rfl (fun ls hl => ?_)
    refine lv_goto (tgt := 4) hx hb dX1_isIn_16 (by decide) ?_
    have e2 : ((nI (k / 2 ^ i)) / 2) = nI (k / 2 ^ (i + 1)) := div_s k i hk
    have hl := lv_sub (l' := [(3, .int (nI (i + 1))), (2, .int ((nI (k / 2 ^ i)) / 2)), (0, .int (nI k)), (1, .int (nI t))]) hl [0, 1, 2, 3] rfl
    rw [e2] at hl
    exact ih ls hlt trivial hl
theorem g_S_isInV (l : Launch) {tc : Nat} {v : Int32} {t : Nat} (htc : tc ≤ 8) (hv : ∃ k, k < pw tc ∧ v = nI k) (ht : t < tc) : Met l yX1_isIn wsX1_isIn ({ frames := 0, cells := 0, slots := 0, locals := 0 }) (va_Pc [.int v, .int (nI t)] (fun _ => True)) (vp_Si (fun r => r = bI (ho v (nI t)))) 0 0 (fun _ => False) := by
  obtain ⟨k, hk, rfl⟩ := hv
  have hpw := pw_in htc
  exact g_S_isIn l (by omega) (by omega)
set_option maxHeartbeats 4000000 in
set_option maxRecDepth 100000 in
theorem g_S_sets (l : Launch) {D : va_G} {cI cR : ClassId} {r nr ar : Nat → Nat} {tc nc ac : Nat} {ch : Int32} {U : Nat → Int32} {Z : Nat → Bool} {B L F : Nat → Int32} {H : Heap} (hP : va_P D vwCl (wS cI cR r nr ar tc nc ac ch U Z B L F) H) (htc : tc ≤ 8) (hnc : nc ≤ 40) (hac : ac ≤ 8)  : Met l yX1_sets wsX1_sets ({ frames := 0, cells := 0, slots := 0, locals := 0 }) (va_Pc [.ref (r 0)] (rd D vwCl (tyS cI cR) H)) (vp_Si (fun r => r = nI (pw tc))) 0 0 (fun _ => False) := by
  refine Met.ofW (cc := cX1_sets) (maxL := 3) (ret := (some .int)) (by decide) rfl ?_
  intro p e s m args below meth c s₁ B9 hml hv
  obtain ⟨rfl, hH, hK⟩ := hv
  subst hH
  have hx := B9.exec
  have hb := B9.bytes
  have hr := B9.returns
  have hts := atoms_spec (ws := wsX1_sets) B9.pre
  have hown : s.vm.findClass RX1 = some m.cls := findClass_of_methodNamed B9.named
  have hlocks := B9.notSynchronized
  have hin : ∀ w ∈ u_ws RX1 TX1 4, w ∈ wsX1_sets := fun w h => List.mem_cons_of_mem _ (List.mem_append_right _ h)
  have hl := lv_entry ([.ref (r 0)]) (n := 3) (Nat.le_of_ble_eq_true rfl)
  rw [lg_entry_eq]
  generalize (lg_sl ([.ref (r 0)]) ++ List.replicate (3 - (lg_sl ([.ref (r 0)])).length) Slot.unset).toArray = ls at hl ⊢
  have hl : lv_has ls 3 [(0, .ref (r 0))] := hl
  refine lv_iconst (v := 1) hx hb dX1_sets_0 (by decide) ?_
  refine lv_istore_n (lv' := [(1, .int 1), (0, .ref (r 0))]) hx hb dX1_sets_1 rfl hl (by decide) rfl (fun ls hl => ?_)
  refine lv_iconst (v := 0) hx hb dX1_sets_2 (by decide) ?_
  refine lv_istore_n (lv' := [(2, .int 0), (1, .int 1), (0, .ref (r 0))]) hx hb dX1_sets_3 rfl hl (by decide) rfl (fun ls hl => ?_)
  refine w_loop (N := tc) (T := fun i => [(2, .int (nI i)), (1, .int (nI (pw i))), (0, .ref (r 0))]) (I := fun _ => True) 0 (Nat.zero_le _) trivial (lv_sub hl [0, 1, 2] rfl) (fun i ls hi hI hl ih => ?_)
  have hl : lv_has ls 3 [(2, .int (nI i)), (1, .int (nI (pw i))), (0, .ref (r 0))] := hl
  refine lv_iload_n hx hb dX1_sets_4 rfl (lv_at hl 0 rfl) ?_
  refine lv_aload_n hx hb dX1_sets_5 rfl (lv_at hl 2 rfl) ?_
  refine va_get (D := D) (ci := 1) (v := .int (nI tc)) (C := RX1) (T := TX1) (N := 4) hx hb hts hin hown hK hP 0 rfl rfl 0 (by decide) (hts (.fieldLink RX1 18 "SmudgedStarLaw$Sim" "things" "I") (List.mem_of_getElem? (i := 1) rfl)) (fun _ h9 => h9) rfl dX1_sets_6 ?_
  refine lv_icmp_ge (tgt := 22) hx hb dX1_sets_9 (by decide) (fun c9 => ?_) (fun c9 => ?_)
  · skip
    have hie : i = tc := gd_ge_t (by omega) hi c9
    rw [hie] at hl
    refine lv_iload_n hx hb dX1_sets_22 rfl (lv_at hl 1 rfl) ?_
    exact W.iret (v := nI (pw tc)) hx hb hr (fun t9 ht9 hW9 => ⟨nI (pw tc), rfl, rfl, ht9⟩) (fun _ h => absurd h List.not_mem_nil) dX1_sets_23
  · skip
    have hlt : i < tc := gd_ge_f hi c9
    refine lv_iload_n hx hb dX1_sets_12 rfl (lv_at hl 1 rfl) ?_
    refine lv_iconst (v := 2) hx hb dX1_sets_13 (by decide) ?_
    refine lv_imul hx hb dX1_sets_14 ?_
    refine lv_istore_n (lv' := [(1, .int ((nI (pw i)) * 2)), (2, .int (nI i)), (0, .ref (r 0))]) hx hb dX1_sets_15 rfl hl (by decide) rfl (fun ls hl => ?_)
    refine lv_iinc (v := nI (i + 1)) (lv' := [(2, .int (nI (i + 1))), (1, .int ((nI (pw i)) * 2)), (0, .ref (r 0))]) hx hb dX1_sets_16 hl (k := 1) rfl (nI_1 _) (by decide) rfl (fun ls hl => ?_)
    refine lv_goto (tgt := 4) hx hb dX1_sets_19 (by decide) ?_
    have e1 : ((nI (pw i)) * 2) = nI (pw (i + 1)) := pw_s i
    have hl := lv_sub (l' := [(2, .int (nI (i + 1))), (1, .int ((nI (pw i)) * 2)), (0, .ref (r 0))]) hl [0, 1, 2] rfl
    rw [e1] at hl
    exact ih ls hlt trivial hl
set_option maxHeartbeats 4000000 in
set_option maxRecDepth 100000 in
theorem g_S_meet (l : Launch) {D : va_G} {cI cR : ClassId} {r nr ar : Nat → Nat} {tc nc ac : Nat} {ch : Int32} {U : Nat → Int32} {Z : Nat → Bool} {B L F : Nat → Int32} {H : Heap} (hP : va_P D vwCl (wS cI cR r nr ar tc nc ac ch U Z B L F) H) (htc : tc ≤ 8) (hnc : nc ≤ 40) (hac : ac ≤ 8) {a b : Nat} (ha : a < pw tc) (hb9 : b < pw tc) : Met l yX1_meet wsX1_meet ({ frames := 1, cells := 0, slots := 0, locals := 23 }) (va_Pc [.ref (r 0), .int (nI a), .int (nI b)] (rd D vwCl (tyS cI cR) H)) (vp_Si (fun r => r = bI (decide (¬ nI a &&& nI b = 0)))) 0 0 (fun _ => False) := by
  refine Met.ofW (cc := cX1_meet) (maxL := 4) (ret := (some .boolean)) (by decide) rfl ?_
  intro p e s m args below meth c s₁ B9 hml hv
  obtain ⟨rfl, hH, hK⟩ := hv
  subst hH
  have hx := B9.exec
  have hb := B9.bytes
  have hr := B9.returns
  have hts := atoms_spec (ws := wsX1_meet) B9.pre
  have hown : s.vm.findClass RX1 = some m.cls := findClass_of_methodNamed B9.named
  have hlocks := B9.notSynchronized
  have hin : ∀ w ∈ u_ws RX1 TX1 4, w ∈ wsX1_meet := fun w h => List.mem_cons_of_mem _ (List.mem_append_right _ h)
  have hl := lv_entry ([.ref (r 0), .int (nI a), .int (nI b)]) (n := 4) (Nat.le_of_ble_eq_true rfl)
  rw [lg_entry_eq]
  generalize (lg_sl ([.ref (r 0), .int (nI a), .int (nI b)]) ++ List.replicate (4 - (lg_sl ([.ref (r 0), .int (nI a), .int (nI b)])).length) Slot.unset).toArray = ls at hl ⊢
  have hl : lv_has ls 4 [(0, .ref (r 0)), (1, .int (nI a)), (2, .int (nI b))] := hl
  refine lv_iconst (v := 0) hx hb dX1_meet_0 (by decide) ?_
  refine lv_istore_n (lv' := [(3, .int 0), (0, .ref (r 0)), (1, .int (nI a)), (2, .int (nI b))]) hx hb dX1_meet_1 rfl hl (by decide) rfl (fun ls hl => ?_)
  refine w_loop (N := tc) (T := fun i => [(3, .int (nI i)), (0, .ref (r 0)), (1, .int (nI a)), (2, .int (nI b))]) (I := fun i => anyb (fun t => ho (nI a) (nI t) && ho (nI b) (nI t)) i = false) 0 (Nat.zero_le _) rfl (lv_sub hl [0, 1, 2, 3] rfl) (fun i ls hi hI hl ih => ?_)
  have hI : anyb (fun t => ho (nI a) (nI t) && ho (nI b) (nI t)) i = false := hI
  have hl : lv_has ls 4 [(3, .int (nI i)), (0, .ref (r 0)), (1, .int (nI a)), (2, .int (nI b))] := hl
  refine lv_iload_n hx hb dX1_meet_2 rfl (lv_at hl 0 rfl) ?_
  refine lv_aload_n hx hb dX1_meet_3 rfl (lv_at hl 1 rfl) ?_
  refine va_get (D := D) (ci := 1) (v := .int (nI tc)) (C := RX1) (T := TX1) (N := 4) hx hb hts hin hown hK hP 0 rfl rfl 0 (by decide) (hts (.fieldLink RX1 18 "SmudgedStarLaw$Sim" "things" "I") (List.mem_of_getElem? (i := 1) rfl)) (fun _ h9 => h9) rfl dX1_meet_4 ?_
  refine lv_icmp_ge (tgt := 34) hx hb dX1_meet_7 (by decide) (fun c7 => ?_) (fun c7 => ?_)
  · skip
    have hie : i = tc := gd_ge_t (by omega) hi c7
    rw [hie] at hl
    rw [hie] at hI
    refine lv_iconst (v := 0) hx hb dX1_meet_34 (by decide) ?_
    exact W.zret (v := 0) (ty := .boolean) hx hb hr (rfl) (fun t9 ht9 hW9 => ⟨0, rfl, (by rw [← meet_any htc ha, hI]; rfl), ht9⟩) (fun _ h => absurd h List.not_mem_nil) dX1_meet_35
  · skip
    have hlt : i < tc := gd_ge_f hi c7
    refine lv_iload_n hx hb dX1_meet_10 rfl (lv_at hl 2 rfl) ?_
    refine lv_iload_n hx hb dX1_meet_11 rfl (lv_at hl 0 rfl) ?_
    refine pcS_i (As := [.int (nI a), .int (nI i)]) (rest := []) ⟨hx, hb, hml, hown, hts⟩ (g_S_isInV l (v := (nI a)) (t := i) htc (⟨a, ha, rfl⟩) hlt) (va_cwS 2 hts gX1_meet_X1_isIn rfl rfl rfl hdX1_isIn ⟨Nat.le_of_ble_eq_true rfl, Nat.le_of_ble_eq_true rfl⟩) rfl hl.1 (Nat.le_of_ble_eq_true rfl) rfl dX1_meet_12 ⟨Nat.le_of_ble_eq_true rfl, Nat.le_of_ble_eq_true rfl⟩ ?_
    refine lv_ifb_eq (tgt := 28) hx hb dX1_meet_15 (by decide) (fun c15 => ?_) (fun c15 => ?_)
    · skip
      refine lv_iinc (v := nI (i + 1)) (lv' := [(3, .int (nI (i + 1))), (0, .ref (r 0)), (1, .int (nI a)), (2, .int (nI b))]) hx hb dX1_meet_28 hl (k := 0) rfl (nI_1 _) (by decide) rfl (fun ls hl => ?_)
      refine lv_goto (tgt := 2) hx hb dX1_meet_31 (by decide) ?_
      have hl := lv_sub (l' := [(3, .int (nI (i + 1))), (0, .ref (r 0)), (1, .int (nI a)), (2, .int (nI b))]) hl [0, 1, 2, 3] rfl
      exact ih ls hlt (anyb_s hI (by first | (simp only [c15, Bool.false_and]; done) | (simp only [c15, c23, Bool.true_and]; done))) hl
    · skip
      refine lv_iload_n hx hb dX1_meet_18 rfl (lv_at hl 3 rfl) ?_
      refine lv_iload_n hx hb dX1_meet_19 rfl (lv_at hl 0 rfl) ?_
      refine pcS_i (As := [.int (nI b), .int (nI i)]) (rest := []) ⟨hx, hb, hml, hown, hts⟩ (g_S_isInV l (v := (nI b)) (t := i) htc (⟨b, hb9, rfl⟩) hlt) (va_cwS 2 hts gX1_meet_X1_isIn rfl rfl rfl hdX1_isIn ⟨Nat.le_of_ble_eq_true rfl, Nat.le_of_ble_eq_true rfl⟩) rfl hl.1 (Nat.le_of_ble_eq_true rfl) rfl dX1_meet_20 ⟨Nat.le_of_ble_eq_true rfl, Nat.le_of_ble_eq_true rfl⟩ ?_
      refine lv_ifb_eq (tgt := 28) hx hb dX1_meet_23 (by decide) (fun c23 => ?_) (fun c23 => ?_)
      · skip
        refine lv_iinc (v := nI (i + 1)) (lv' := [(3, .int (nI (i + 1))), (0, .ref (r 0)), (1, .int (nI a)), (2, .int (nI b))]) hx hb dX1_meet_28 hl (k := 0) rfl (nI_1 _) (by decide) rfl (fun ls hl => ?_)
        refine lv_goto (tgt := 2) hx hb dX1_meet_31 (by decide) ?_
        have hl := lv_sub (l' := [(3, .int (nI (i + 1))), (0, .ref (r 0)), (1, .int (nI a)), (2, .int (nI b))]) hl [0, 1, 2, 3] rfl
        exact ih ls hlt (anyb_s hI (by first | (simp only [c15, Bool.false_and]; done) | (simp only [c15, c23, Bool.true_and]; done))) hl
      · skip
        refine lv_iconst (v := 1) hx hb dX1_meet_26 (by decide) ?_
        exact W.zret (v := 1) (ty := .boolean) hx hb hr (rfl) (fun t9 ht9 hW9 => ⟨1, rfl, (by rw [← meet_any htc ha, anyb_of (p := (fun t => ho (nI a) (nI t) && ho (nI b) (nI t))) (i := i) (by simp only [c15, c23, Bool.true_and]) tc hlt]; rfl), ht9⟩) (fun _ h => absurd h List.not_mem_nil) dX1_meet_27
theorem g_S_meetV (l : Launch) {D : va_G} {cI cR : ClassId} {r nr ar : Nat → Nat} {tc nc ac : Nat} {ch : Int32} {U : Nat → Int32} {Z : Nat → Bool} {B L F : Nat → Int32} {H : Heap} (hP : va_P D vwCl (wS cI cR r nr ar tc nc ac ch U Z B L F) H) (htc : tc ≤ 8) (hnc : nc ≤ 40) (hac : ac ≤ 8) {v w : Int32} (hv : ∃ k, k < pw tc ∧ v = nI k) (hw : ∃ k, k < pw tc ∧ w = nI k) : Met l yX1_meet wsX1_meet ({ frames := 1, cells := 0, slots := 0, locals := 23 }) (va_Pc [.ref (r 0), .int v, .int w] (rd D vwCl (tyS cI cR) H)) (vp_Si (fun r => r = bI (decide (¬ v &&& w = 0)))) 0 0 (fun _ => False) := by
  obtain ⟨k, hk, rfl⟩ := hv
  obtain ⟨j, hj, rfl⟩ := hw
  exact g_S_meet l hP htc hnc hac hk hj
theorem eqz1 {a z : Bool} (h : bI z = 1) (h2 : bI a = 1) : a = z := by revert h h2; cases a <;> cases z <;> decide
theorem eqz2 {a z : Bool} (h : ¬ bI z = 1) (h2 : bI a = 0) : a = z := by revert h h2; cases a <;> cases z <;> decide
theorem eqz3 {a z : Bool} (h : bI z = 1) (h2 : ¬ bI a = 1) : ¬ a = z := by revert h h2; cases a <;> cases z <;> decide
theorem eqz4 {a z : Bool} (h : ¬ bI z = 1) (h2 : ¬ bI a = 0) : ¬ a = z := by revert h h2; cases a <;> cases z <;> decide
set_option maxHeartbeats 4000000 in
set_option maxRecDepth 100000 in
theorem g_S_unexplained (l : Launch) {D : va_G} {cI cR : ClassId} {r nr ar : Nat → Nat} {tc nc ac : Nat} {ch : Int32} {U : Nat → Int32} {Z : Nat → Bool} {B L F : Nat → Int32} {H : Heap} (hP : va_P D vwCl (wS cI cR r nr ar tc nc ac ch U Z B L F) H) (htc : tc ≤ 8) (hnc : nc ≤ 40) (hac : ac ≤ 8) (hU : ∀ j, ∃ k, k < pw tc ∧ U j = nI k) {v : Int32} (hv : ∃ k, k < pw tc ∧ v = nI k) : Met l yX1_unexplained wsX1_unexplained ({ frames := 2, cells := 0, slots := 0, locals := 46 }) (va_Pc [.ref (r 0), .int v] (rd D vwCl (tyS cI cR) H)) (vp_Si (fun r => r = nI (un U Z v nc))) 0 0 (fun _ => False) := by
  refine Met.ofW (cc := cX1_unexplained) (maxL := 7) (ret := (some .int)) (by decide) rfl ?_
  intro p e s m args below meth c s₁ B9 hml hv
  obtain ⟨rfl, hH, hK⟩ := hv
  subst hH
  have hx := B9.exec
  have hb := B9.bytes
  have hr := B9.returns
  have hts := atoms_spec (ws := wsX1_unexplained) B9.pre
  have hown : s.vm.findClass RX1 = some m.cls := findClass_of_methodNamed B9.named
  have hlocks := B9.notSynchronized
  have hin : ∀ w ∈ u_ws RX1 TX1 4, w ∈ wsX1_unexplained := fun w h => List.mem_cons_of_mem _ (List.mem_append_right _ h)
  have hl := lv_entry ([.ref (r 0), .int v]) (n := 7) (Nat.le_of_ble_eq_true rfl)
  rw [lg_entry_eq]
  generalize (lg_sl ([.ref (r 0), .int v]) ++ List.replicate (7 - (lg_sl ([.ref (r 0), .int v])).length) Slot.unset).toArray = ls at hl ⊢
  have hl : lv_has ls 7 [(0, .ref (r 0)), (1, .int v)] := hl
  refine lv_iconst (v := 0) hx hb dX1_unexplained_0 (by decide) ?_
  refine lv_istore_n (lv' := [(2, .int 0), (0, .ref (r 0)), (1, .int v)]) hx hb dX1_unexplained_1 rfl hl (by decide) rfl (fun ls hl => ?_)
  refine lv_aload_n hx hb dX1_unexplained_2 rfl (lv_at hl 1 rfl) ?_
  refine va_get (D := D) (ci := 1) (v := .ref (r 1)) (C := RX1) (T := TX1) (N := 4) hx hb hts hin hown hK hP 0 rfl rfl 1 (by decide) (hts (.fieldLink RX1 9 "SmudgedStarLaw$Sim" "nights" "[[I") (List.mem_of_getElem? (i := 1) rfl)) (fun _ h9 => h9) rfl dX1_unexplained_3 ?_
  refine lv_astore_n (lv' := [(3, .ref (r 1)), (2, .int 0), (0, .ref (r 0)), (1, .int v)]) hx hb dX1_unexplained_6 rfl hl (by decide) rfl (fun ls hl => ?_)
  refine lv_aload_n hx hb dX1_unexplained_7 rfl (lv_at hl 0 rfl) ?_
  refine va_alen (v := nI nc) hx hb hK hP 1 1 rfl rfl rfl dX1_unexplained_8 ?_
  refine lv_istore (lv' := [(4, .int (nI nc)), (3, .ref (r 1)), (2, .int 0), (0, .ref (r 0)), (1, .int v)]) hx hb dX1_unexplained_9 hl (by decide) rfl (fun ls hl => ?_)
  refine lv_iconst (v := 0) hx hb dX1_unexplained_11 (by decide) ?_
  refine lv_istore (lv' := [(5, .int 0), (4, .int (nI nc)), (3, .ref (r 1)), (2, .int 0), (0, .ref (r 0)), (1, .int v)]) hx hb dX1_unexplained_12 hl (by decide) rfl (fun ls hl => ?_)
  refine w_loop (N := nc) (T := fun i => [(5, .int (nI i)), (4, .int (nI nc)), (3, .ref (r 1)), (2, .int (nI (ct (fun j => !(sx v (U j) (Z j))) i))), (0, .ref (r 0)), (1, .int v)]) (I := fun _ => True) 0 (Nat.zero_le _) trivial (lv_sub hl [0, 1, 2, 3, 4, 5] rfl) (fun i ls hi hI hl ih => ?_)
  have hl : lv_has ls 7 [(5, .int (nI i)), (4, .int (nI nc)), (3, .ref (r 1)), (2, .int (nI (ct (fun j => !(sx v (U j) (Z j))) i))), (0, .ref (r 0)), (1, .int v)] := hl
  refine lv_iload hx hb dX1_unexplained_14 (lv_at hl 0 rfl) ?_
  refine lv_iload hx hb dX1_unexplained_16 (lv_at hl 1 rfl) ?_
  refine lv_icmp_ge (tgt := 66) hx hb dX1_unexplained_18 (by decide) (fun c18 => ?_) (fun c18 => ?_)
  · skip
    have hie : i = nc := gd_ge_t (by omega) hi c18
    rw [hie] at hl
    refine lv_iload_n hx hb dX1_unexplained_66 rfl (lv_at hl 3 rfl) ?_
    exact W.iret (v := nI (ct (fun j => !(sx v (U j) (Z j))) nc)) hx hb hr (fun t9 ht9 hW9 => ⟨nI (ct (fun j => !(sx v (U j) (Z j))) nc), rfl, rfl, ht9⟩) (fun _ h => absurd h List.not_mem_nil) dX1_unexplained_67
  · skip
    have hlt : i < nc := gd_ge_f hi c18
    refine lv_aload_n hx hb dX1_unexplained_21 rfl (lv_at hl 2 rfl) ?_
    refine lv_iload hx hb dX1_unexplained_22 (lv_at hl 0 rfl) ?_
    refine ra_ld hx hb hK hP 1 1 rfl rfl (j := i) rfl (hlt) (by omega) dX1_unexplained_24 ?_
    refine lv_astore (lv' := [(6, .ref (nr i)), (5, .int (nI i)), (4, .int (nI nc)), (3, .ref (r 1)), (2, .int (nI (ct (fun j => !(sx v (U j) (Z j))) i))), (0, .ref (r 0)), (1, .int v)]) hx hb dX1_unexplained_25 hl (by decide) rfl (fun ls hl => ?_)
    refine lv_iload_n hx hb dX1_unexplained_27 rfl (lv_at hl 4 rfl) ?_
    refine lv_aload_n hx hb dX1_unexplained_28 rfl (lv_at hl 5 rfl) ?_
    refine lv_iload_n hx hb dX1_unexplained_29 rfl (lv_at hl 6 rfl) ?_
    refine lv_aload hx hb dX1_unexplained_30 (lv_at hl 0 rfl) ?_
    refine lv_iconst (v := 0) hx hb dX1_unexplained_32 (by decide) ?_
    refine rn_0 hx hb hK hP (j := i) (hlt) dX1_unexplained_33 ?_
    refine pcV_i (As := [.int v, .int (U i)]) (rest := [.int (nI (ct (fun j => !(sx v (U j) (Z j))) i))]) ⟨hx, hb, hml, hown, hts⟩ (g_S_meetV l hP htc hnc hac (v := v) (w := (U i)) hv (hU i)) (cwV 2 hts gX1_unexplained_X1_meet rfl rfl rfl hdX1_meet ⟨Nat.le_of_ble_eq_true rfl, Nat.le_of_ble_eq_true rfl⟩) (va_recv hK hP (ci := 1) (q0 := 0) rfl rfl) hK rfl hl.1 (Nat.le_of_ble_eq_true rfl) rfl dX1_unexplained_34 ⟨Nat.le_of_ble_eq_true rfl, Nat.le_of_ble_eq_true rfl⟩ ?_
    refine lv_aload hx hb dX1_unexplained_37 (lv_at hl 0 rfl) ?_
    refine lv_iconst (v := 1) hx hb dX1_unexplained_39 (by decide) ?_
    refine rn_1 hx hb hK hP (j := i) (hlt) dX1_unexplained_40 ?_
    refine lv_iconst (v := 1) hx hb dX1_unexplained_41 (by decide) ?_
    refine lv_icmp_ne (tgt := 49) hx hb dX1_unexplained_42 (by decide) (fun c42 => ?_) (fun c42 => ?_)
    · skip
      refine lv_iconst (v := 0) hx hb dX1_unexplained_49 (by decide) ?_
      refine lv_icmp_ne (tgt := 57) hx hb dX1_unexplained_50 (by decide) (fun c50 => ?_) (fun c50 => ?_)
      · skip
        refine lv_iconst (v := 1) hx hb dX1_unexplained_57 (by decide) ?_
        refine lv_iadd hx hb dX1_unexplained_58 ?_
        refine lv_istore_n (lv' := [(2, .int ((nI (ct (fun j => !(sx v (U j) (Z j))) i)) + 1)), (6, .ref (nr i)), (5, .int (nI i)), (4, .int (nI nc)), (3, .ref (r 1)), (0, .ref (r 0)), (1, .int v)]) hx hb dX1_unexplained_59 rfl hl (by decide) rfl (fun ls hl => ?_)
        refine lv_iinc (v := nI (i + 1)) (lv' := [(5, .int (nI (i + 1))), (2, .int ((nI (ct (fun j => !(sx v (U j) (Z j))) i)) + 1)), (6, .ref (nr i)), (4, .int (nI nc)), (3, .ref (r 1)), (0, .ref (r 0)), (1, .int v)]) hx hb dX1_unexplained_60 hl (k := 2) rfl (nI_1 _) (by decide) rfl (fun ls hl => ?_)
        refine lv_goto (tgt := 14) hx hb dX1_unexplained_63 (by decide) ?_
        have e2 : ((nI (ct (fun j => !(sx v (U j) (Z j))) i)) + 1) = nI (ct (fun j => !(sx v (U j) (Z j))) (i + 1)) := by first | exact un_y (s := v) (u := U i) rfl (eqz1 c42 c50) | exact un_y (s := v) (u := U i) rfl (eqz2 c42 c50) | exact un_n (s := v) (u := U i) rfl (eqz3 c42 c50) | exact un_n (s := v) (u := U i) rfl (eqz4 c42 c50)
        have hl := lv_sub (l' := [(5, .int (nI (i + 1))), (4, .int (nI nc)), (3, .ref (r 1)), (2, .int ((nI (ct (fun j => !(sx v (U j) (Z j))) i)) + 1)), (0, .ref (r 0)), (1, .int v)]) hl [0, 3, 4, 1, 5, 6] rfl
        rw [e2] at hl
        exact ih ls hlt trivial hl
      · skip
        refine lv_iconst (v := 0) hx hb dX1_unexplained_53 (by decide) ?_
        refine lv_goto (tgt := 58) hx hb dX1_unexplained_54 (by decide) ?_
        refine lv_iadd hx hb dX1_unexplained_58 ?_
        refine lv_istore_n (lv' := [(2, .int ((nI (ct (fun j => !(sx v (U j) (Z j))) i)) + 0)), (6, .ref (nr i)), (5, .int (nI i)), (4, .int (nI nc)), (3, .ref (r 1)), (0, .ref (r 0)), (1, .int v)]) hx hb dX1_unexplained_59 rfl hl (by decide) rfl (fun ls hl => ?_)
        refine lv_iinc (v := nI (i + 1)) (lv' := [(5, .int (nI (i + 1))), (2, .int ((nI (ct (fun j => !(sx v (U j) (Z j))) i)) + 0)), (6, .ref (nr i)), (4, .int (nI nc)), (3, .ref (r 1)), (0, .ref (r 0)), (1, .int v)]) hx hb dX1_unexplained_60 hl (k := 2) rfl (nI_1 _) (by decide) rfl (fun ls hl => ?_)
        refine lv_goto (tgt := 14) hx hb dX1_unexplained_63 (by decide) ?_
        have e2 : ((nI (ct (fun j => !(sx v (U j) (Z j))) i)) + 0) = nI (ct (fun j => !(sx v (U j) (Z j))) (i + 1)) := by first | exact un_y (s := v) (u := U i) rfl (eqz1 c42 c50) | exact un_y (s := v) (u := U i) rfl (eqz2 c42 c50) | exact un_n (s := v) (u := U i) rfl (eqz3 c42 c50) | exact un_n (s := v) (u := U i) rfl (eqz4 c42 c50)
        have hl := lv_sub (l' := [(5, .int (nI (i + 1))), (4, .int (nI nc)), (3, .ref (r 1)), (2, .int ((nI (ct (fun j => !(sx v (U j) (Z j))) i)) + 0)), (0, .ref (r 0)), (1, .int v)]) hl [0, 3, 4, 1, 5, 6] rfl
        rw [e2] at hl
        exact ih ls hlt trivial hl
    · skip
      refine lv_iconst (v := 1) hx hb dX1_unexplained_45 (by decide) ?_
      refine lv_goto (tgt := 50) hx hb dX1_unexplained_46 (by decide) ?_
      refine lv_icmp_ne (tgt := 57) hx hb dX1_unexplained_50 (by decide) (fun c50 => ?_) (fun c50 => ?_)
      · skip
        refine lv_iconst (v := 1) hx hb dX1_unexplained_57 (by decide) ?_
        refine lv_iadd hx hb dX1_unexplained_58 ?_
        refine lv_istore_n (lv' := [(2, .int ((nI (ct (fun j => !(sx v (U j) (Z j))) i)) + 1)), (6, .ref (nr i)), (5, .int (nI i)), (4, .int (nI nc)), (3, .ref (r 1)), (0, .ref (r 0)), (1, .int v)]) hx hb dX1_unexplained_59 rfl hl (by decide) rfl (fun ls hl => ?_)
        refine lv_iinc (v := nI (i + 1)) (lv' := [(5, .int (nI (i + 1))), (2, .int ((nI (ct (fun j => !(sx v (U j) (Z j))) i)) + 1)), (6, .ref (nr i)), (4, .int (nI nc)), (3, .ref (r 1)), (0, .ref (r 0)), (1, .int v)]) hx hb dX1_unexplained_60 hl (k := 2) rfl (nI_1 _) (by decide) rfl (fun ls hl => ?_)
        refine lv_goto (tgt := 14) hx hb dX1_unexplained_63 (by decide) ?_
        have e2 : ((nI (ct (fun j => !(sx v (U j) (Z j))) i)) + 1) = nI (ct (fun j => !(sx v (U j) (Z j))) (i + 1)) := by first | exact un_y (s := v) (u := U i) rfl (eqz1 c42 c50) | exact un_y (s := v) (u := U i) rfl (eqz2 c42 c50) | exact un_n (s := v) (u := U i) rfl (eqz3 c42 c50) | exact un_n (s := v) (u := U i) rfl (eqz4 c42 c50)
        have hl := lv_sub (l' := [(5, .int (nI (i + 1))), (4, .int (nI nc)), (3, .ref (r 1)), (2, .int ((nI (ct (fun j => !(sx v (U j) (Z j))) i)) + 1)), (0, .ref (r 0)), (1, .int v)]) hl [0, 3, 4, 1, 5, 6] rfl
        rw [e2] at hl
        exact ih ls hlt trivial hl
      · skip
        refine lv_iconst (v := 0) hx hb dX1_unexplained_53 (by decide) ?_
        refine lv_goto (tgt := 58) hx hb dX1_unexplained_54 (by decide) ?_
        refine lv_iadd hx hb dX1_unexplained_58 ?_
        refine lv_istore_n (lv' := [(2, .int ((nI (ct (fun j => !(sx v (U j) (Z j))) i)) + 0)), (6, .ref (nr i)), (5, .int (nI i)), (4, .int (nI nc)), (3, .ref (r 1)), (0, .ref (r 0)), (1, .int v)]) hx hb dX1_unexplained_59 rfl hl (by decide) rfl (fun ls hl => ?_)
        refine lv_iinc (v := nI (i + 1)) (lv' := [(5, .int (nI (i + 1))), (2, .int ((nI (ct (fun j => !(sx v (U j) (Z j))) i)) + 0)), (6, .ref (nr i)), (4, .int (nI nc)), (3, .ref (r 1)), (0, .ref (r 0)), (1, .int v)]) hx hb dX1_unexplained_60 hl (k := 2) rfl (nI_1 _) (by decide) rfl (fun ls hl => ?_)
        refine lv_goto (tgt := 14) hx hb dX1_unexplained_63 (by decide) ?_
        have e2 : ((nI (ct (fun j => !(sx v (U j) (Z j))) i)) + 0) = nI (ct (fun j => !(sx v (U j) (Z j))) (i + 1)) := by first | exact un_y (s := v) (u := U i) rfl (eqz1 c42 c50) | exact un_y (s := v) (u := U i) rfl (eqz2 c42 c50) | exact un_n (s := v) (u := U i) rfl (eqz3 c42 c50) | exact un_n (s := v) (u := U i) rfl (eqz4 c42 c50)
        have hl := lv_sub (l' := [(5, .int (nI (i + 1))), (4, .int (nI nc)), (3, .ref (r 1)), (2, .int ((nI (ct (fun j => !(sx v (U j) (Z j))) i)) + 0)), (0, .ref (r 0)), (1, .int v)]) hl [0, 3, 4, 1, 5, 6] rfl
        rw [e2] at hl
        exact ih ls hlt trivial hl
set_option maxHeartbeats 4000000 in
set_option maxRecDepth 100000 in
theorem g_S_size (l : Launch) {D : va_G} {cI cR : ClassId} {r nr ar : Nat → Nat} {tc nc ac : Nat} {ch : Int32} {U : Nat → Int32} {Z : Nat → Bool} {B L F : Nat → Int32} {H : Heap} (hP : va_P D vwCl (wS cI cR r nr ar tc nc ac ch U Z B L F) H) (htc : tc ≤ 8) (hnc : nc ≤ 40) (hac : ac ≤ 8) {v : Int32} (hv : ∃ k, k < pw tc ∧ v = nI k) : Met l yX1_size wsX1_size ({ frames := 1, cells := 0, slots := 0, locals := 23 }) (va_Pc [.ref (r 0), .int v] (rd D vwCl (tyS cI cR) H)) (vp_Si (fun r => r = bc v)) 0 0 (fun _ => False) := by
  refine Met.ofW (cc := cX1_size) (maxL := 4) (ret := (some .int)) (by decide) rfl ?_
  intro p e s m args below meth c s₁ B9 hml hv
  obtain ⟨rfl, hH, hK⟩ := hv
  subst hH
  have hx := B9.exec
  have hb := B9.bytes
  have hr := B9.returns
  have hts := atoms_spec (ws := wsX1_size) B9.pre
  have hown : s.vm.findClass RX1 = some m.cls := findClass_of_methodNamed B9.named
  have hlocks := B9.notSynchronized
  have hin : ∀ w ∈ u_ws RX1 TX1 4, w ∈ wsX1_size := fun w h => List.mem_cons_of_mem _ (List.mem_append_right _ h)
  have hl := lv_entry ([.ref (r 0), .int v]) (n := 4) (Nat.le_of_ble_eq_true rfl)
  rw [lg_entry_eq]
  generalize (lg_sl ([.ref (r 0), .int v]) ++ List.replicate (4 - (lg_sl ([.ref (r 0), .int v])).length) Slot.unset).toArray = ls at hl ⊢
  have hl : lv_has ls 4 [(0, .ref (r 0)), (1, .int v)] := hl
  refine lv_iconst (v := 0) hx hb dX1_size_0 (by decide) ?_
  refine lv_istore_n (lv' := [(2, .int 0), (0, .ref (r 0)), (1, .int v)]) hx hb dX1_size_1 rfl hl (by decide) rfl (fun ls hl => ?_)
  refine lv_iconst (v := 0) hx hb dX1_size_2 (by decide) ?_
  refine lv_istore_n (lv' := [(3, .int 0), (2, .int 0), (0, .ref (r 0)), (1, .int v)]) hx hb dX1_size_3 rfl hl (by decide) rfl (fun ls hl => ?_)
  refine w_loop (N := tc) (T := fun i => [(3, .int (nI i)), (2, .int (nI (ct (fun t => ho v (nI t)) i))), (0, .ref (r 0)), (1, .int v)]) (I := fun _ => True) 0 (Nat.zero_le _) trivial (lv_sub hl [0, 1, 2, 3] rfl) (fun i ls hi hI hl ih => ?_)
  have hl : lv_has ls 4 [(3, .int (nI i)), (2, .int (nI (ct (fun t => ho v (nI t)) i))), (0, .ref (r 0)), (1, .int v)] := hl
  refine lv_iload_n hx hb dX1_size_4 rfl (lv_at hl 0 rfl) ?_
  refine lv_aload_n hx hb dX1_size_5 rfl (lv_at hl 2 rfl) ?_
  refine va_get (D := D) (ci := 1) (v := .int (nI tc)) (C := RX1) (T := TX1) (N := 4) hx hb hts hin hown hK hP 0 rfl rfl 0 (by decide) (hts (.fieldLink RX1 18 "SmudgedStarLaw$Sim" "things" "I") (List.mem_of_getElem? (i := 1) rfl)) (fun _ h9 => h9) rfl dX1_size_6 ?_
  refine lv_icmp_ge (tgt := 34) hx hb dX1_size_9 (by decide) (fun c9 => ?_) (fun c9 => ?_)
  · skip
    have hie : i = tc := gd_ge_t (by omega) hi c9
    rw [hie] at hl
    refine lv_iload_n hx hb dX1_size_34 rfl (lv_at hl 1 rfl) ?_
    exact W.iret (v := nI (ct (fun t => ho v (nI t)) tc)) hx hb hr (fun t9 ht9 hW9 => ⟨nI (ct (fun t => ho v (nI t)) tc), rfl, (by obtain ⟨k, hk, rfl⟩ := hv; exact size_bc htc hk), ht9⟩) (fun _ h => absurd h List.not_mem_nil) dX1_size_35
  · skip
    have hlt : i < tc := gd_ge_f hi c9
    refine lv_iload_n hx hb dX1_size_12 rfl (lv_at hl 1 rfl) ?_
    refine lv_iload_n hx hb dX1_size_13 rfl (lv_at hl 3 rfl) ?_
    refine lv_iload_n hx hb dX1_size_14 rfl (lv_at hl 0 rfl) ?_
    refine pcS_i (As := [.int v, .int (nI i)]) (rest := [.int (nI (ct (fun t => ho v (nI t)) i))]) ⟨hx, hb, hml, hown, hts⟩ (g_S_isInV l (v := v) (t := i) htc hv hlt) (va_cwS 2 hts gX1_size_X1_isIn rfl rfl rfl hdX1_isIn ⟨Nat.le_of_ble_eq_true rfl, Nat.le_of_ble_eq_true rfl⟩) rfl hl.1 (Nat.le_of_ble_eq_true rfl) rfl dX1_size_15 ⟨Nat.le_of_ble_eq_true rfl, Nat.le_of_ble_eq_true rfl⟩ ?_
    refine lv_ifb_eq (tgt := 25) hx hb dX1_size_18 (by decide) (fun c18 => ?_) (fun c18 => ?_)
    · skip
      refine lv_iconst (v := 0) hx hb dX1_size_25 (by decide) ?_
      refine lv_iadd hx hb dX1_size_26 ?_
      refine lv_istore_n (lv' := [(2, .int ((nI (ct (fun t => ho v (nI t)) i)) + 0)), (3, .int (nI i)), (0, .ref (r 0)), (1, .int v)]) hx hb dX1_size_27 rfl hl (by decide) rfl (fun ls hl => ?_)
      refine lv_iinc (v := nI (i + 1)) (lv' := [(3, .int (nI (i + 1))), (2, .int ((nI (ct (fun t => ho v (nI t)) i)) + 0)), (0, .ref (r 0)), (1, .int v)]) hx hb dX1_size_28 hl (k := 1) rfl (nI_1 _) (by decide) rfl (fun ls hl => ?_)
      refine lv_goto (tgt := 4) hx hb dX1_size_31 (by decide) ?_
      have e2 : ((nI (ct (fun t => ho v (nI t)) i)) + 0) = nI (ct (fun t => ho v (nI t)) (i + 1)) := by first | exact ct_t1 (by simp only [c9, c18]) | exact ct_t (by simp only [c9, c18]) | exact ct_f (by simp only [c9, c18]) | exact ct_f0 (by simp only [c9, c18])
      have hl := lv_sub (l' := [(3, .int (nI (i + 1))), (2, .int ((nI (ct (fun t => ho v (nI t)) i)) + 0)), (0, .ref (r 0)), (1, .int v)]) hl [0, 1, 2, 3] rfl
      rw [e2] at hl
      exact ih ls hlt trivial hl
    · skip
      refine lv_iconst (v := 1) hx hb dX1_size_21 (by decide) ?_
      refine lv_goto (tgt := 26) hx hb dX1_size_22 (by decide) ?_
      refine lv_iadd hx hb dX1_size_26 ?_
      refine lv_istore_n (lv' := [(2, .int ((nI (ct (fun t => ho v (nI t)) i)) + 1)), (3, .int (nI i)), (0, .ref (r 0)), (1, .int v)]) hx hb dX1_size_27 rfl hl (by decide) rfl (fun ls hl => ?_)
      refine lv_iinc (v := nI (i + 1)) (lv' := [(3, .int (nI (i + 1))), (2, .int ((nI (ct (fun t => ho v (nI t)) i)) + 1)), (0, .ref (r 0)), (1, .int v)]) hx hb dX1_size_28 hl (k := 1) rfl (nI_1 _) (by decide) rfl (fun ls hl => ?_)
      refine lv_goto (tgt := 4) hx hb dX1_size_31 (by decide) ?_
      have e2 : ((nI (ct (fun t => ho v (nI t)) i)) + 1) = nI (ct (fun t => ho v (nI t)) (i + 1)) := by first | exact ct_t1 (by simp only [c9, c18]) | exact ct_t (by simp only [c9, c18]) | exact ct_f (by simp only [c9, c18]) | exact ct_f0 (by simp only [c9, c18])
      have hl := lv_sub (l' := [(3, .int (nI (i + 1))), (2, .int ((nI (ct (fun t => ho v (nI t)) i)) + 1)), (0, .ref (r 0)), (1, .int v)]) hl [0, 1, 2, 3] rfl
      rw [e2] at hl
      exact ih ls hlt trivial hl
theorem dn_t {n i : Nat} (hn : n ≤ 256) (hi : i ≤ n) (h : nI (n - i) - 1 < 0) : i = n := by
  rcases Nat.lt_or_ge i n with z | z
  · exfalso
    rw [show n - i = (n - i - 1) + 1 by omega, nI_pred] at h
    exact nI_pos (by omega) h
  · omega
theorem dn_f {n i : Nat} (hi : i ≤ n) (h : ¬ nI (n - i) - 1 < 0) : i < n := by
  rcases Nat.lt_or_ge i n with z | z
  · exact z
  · exfalso
    rw [show n - i = 0 by omega] at h
    exact h (by decide)
theorem dn_at {n i : Nat} (hi : i < n) : nI (n - i) - 1 = nI (n - 1 - i) := by rw [show n - i = (n - 1 - i) + 1 by omega, nI_pred]
theorem dn_s {n i : Nat} (hi : i < n) : nI (n - i) - 1 + (-1) = nI (n - (i + 1)) - 1 := by
  rw [show n - i = (n - (i + 1)) + 1 by omega, nI_pred, Int32.sub_eq_add_neg]
set_option maxHeartbeats 4000000 in
set_option maxRecDepth 100000 in
theorem g_S_simplest (l : Launch) {D : va_G} {cI cR : ClassId} {r nr ar : Nat → Nat} {tc nc ac : Nat} {ch : Int32} {U : Nat → Int32} {Z : Nat → Bool} {B L F : Nat → Int32} {H : Heap} (hP : va_P D vwCl (wS cI cR r nr ar tc nc ac ch U Z B L F) H) (htc : tc ≤ 8) (hnc : nc ≤ 40) (hac : ac ≤ 8) {ea n9 : Nat} {e9 : Nat → Nat} (hE : va_P D vwCl [(ea, .inl (cI, n9, .inl (fun j => nI (e9 j))))] H) (hn9 : n9 ≤ 256) (he9 : ∀ j, j < n9 → e9 j < pw tc) : Met l yX1_simplest wsX1_simplest ({ frames := 2, cells := 0, slots := 0, locals := 46 }) (va_Pc [.ref (r 0), .ref ea] (rd D vwCl (tyS cI cR) H)) (vp_Si (fun r => r = sdn e9 n9 n9)) 0 0 (fun _ => False) := by
  refine Met.ofW (cc := cX1_simplest) (maxL := 4) (ret := (some .int)) (by decide) rfl ?_
  intro p e s m args below meth c s₁ B9 hml hv
  obtain ⟨rfl, hH, hK⟩ := hv
  subst hH
  have hx := B9.exec
  have hb := B9.bytes
  have hr := B9.returns
  have hts := atoms_spec (ws := wsX1_simplest) B9.pre
  have hown : s.vm.findClass RX1 = some m.cls := findClass_of_methodNamed B9.named
  have hlocks := B9.notSynchronized
  have hl := lv_entry ([.ref (r 0), .ref ea]) (n := 4) (Nat.le_of_ble_eq_true rfl)
  rw [lg_entry_eq]
  generalize (lg_sl ([.ref (r 0), .ref ea]) ++ List.replicate (4 - (lg_sl ([.ref (r 0), .ref ea])).length) Slot.unset).toArray = ls at hl ⊢
  have hl : lv_has ls 4 [(0, .ref (r 0)), (1, .ref ea)] := hl
  have hpw := pw_in htc
  refine lv_iconst (v := (-1)) hx hb dX1_simplest_0 (by decide) ?_
  refine lv_istore_n (lv' := [(2, .int (-1)), (0, .ref (r 0)), (1, .ref ea)]) hx hb dX1_simplest_1 rfl hl (by decide) rfl (fun ls hl => ?_)
  refine lv_aload_n hx hb dX1_simplest_2 rfl (lv_at hl 2 rfl) ?_
  refine va_alen (v := nI n9) hx hb hK hE 0 0 rfl rfl rfl dX1_simplest_3 ?_
  refine lv_iconst (v := 1) hx hb dX1_simplest_4 (by decide) ?_
  refine lv_isub hx hb dX1_simplest_5 ?_
  refine lv_istore_n (lv' := [(3, .int ((nI n9) - 1)), (2, .int (-1)), (0, .ref (r 0)), (1, .ref ea)]) hx hb dX1_simplest_6 rfl hl (by decide) rfl (fun ls hl => ?_)
  refine w_loop (N := n9) (T := fun i => [(3, .int (nI (n9 - i) - 1)), (2, .int (sdn e9 n9 i)), (0, .ref (r 0)), (1, .ref ea)]) (I := fun _ => True) 0 (Nat.zero_le _) trivial (lv_sub hl [0, 1, 2, 3] rfl) (fun i ls hi hI hl ih => ?_)
  have hl : lv_has ls 4 [(3, .int (nI (n9 - i) - 1)), (2, .int (sdn e9 n9 i)), (0, .ref (r 0)), (1, .ref ea)] := hl
  refine lv_iload_n hx hb dX1_simplest_7 rfl (lv_at hl 0 rfl) ?_
  refine lv_if_lt (tgt := 40) hx hb dX1_simplest_8 (by decide) (fun c8 => ?_) (fun c8 => ?_)
  · skip
    have hie : i = n9 := dn_t hn9 hi c8
    rw [hie] at hl
    refine lv_iload_n hx hb dX1_simplest_40 rfl (lv_at hl 1 rfl) ?_
    exact W.iret (v := sdn e9 n9 n9) hx hb hr (fun t9 ht9 hW9 => ⟨sdn e9 n9 n9, rfl, rfl, ht9⟩) (fun _ h => absurd h List.not_mem_nil) dX1_simplest_41
  · skip
    have hlt : i < n9 := dn_f hi c8
    refine lv_iload_n hx hb dX1_simplest_11 rfl (lv_at hl 1 rfl) ?_
    refine lv_if_lt (tgt := 30) hx hb dX1_simplest_12 (by decide) (fun c12 => ?_) (fun c12 => ?_)
    · skip
      refine lv_aload_n hx hb dX1_simplest_30 rfl (lv_at hl 3 rfl) ?_
      refine lv_iload_n hx hb dX1_simplest_31 rfl (lv_at hl 0 rfl) ?_
      refine lv_cst (y := nI (n9 - 1 - i)) (dn_at hlt) ?_
      refine ia_ld hx hb hK hE 0 0 rfl rfl (j := (n9 - 1 - i)) (by omega) (by omega) dX1_simplest_32 ?_
      refine lv_istore_n (lv' := [(2, .int (nI (e9 (n9 - 1 - i)))), (3, .int (nI (n9 - i) - 1)), (0, .ref (r 0)), (1, .ref ea)]) hx hb dX1_simplest_33 rfl hl (by decide) rfl (fun ls hl => ?_)
      refine lv_iinc (v := (nI (n9 - i) - 1) + (-1)) (lv' := [(3, .int ((nI (n9 - i) - 1) + (-1))), (2, .int (nI (e9 (n9 - 1 - i)))), (0, .ref (r 0)), (1, .ref ea)]) hx hb dX1_simplest_34 hl (k := 1) rfl rfl (by decide) rfl (fun ls hl => ?_)
      refine lv_goto (tgt := 7) hx hb dX1_simplest_37 (by decide) ?_
      have e3 : ((nI (n9 - i) - 1) + (-1)) = nI (n9 - (i + 1)) - 1 := dn_s hlt
      have e2 : (nI (e9 (n9 - 1 - i))) = sdn e9 n9 (i + 1) := by first | exact (sdn_a c12).symm | exact (sdn_b (Int32.not_lt.mp c27)).symm | exact (sdn_c c12 (Int32.not_le.mpr c27)).symm
      have hl := lv_sub (l' := [(3, .int ((nI (n9 - i) - 1) + (-1))), (2, .int (nI (e9 (n9 - 1 - i)))), (0, .ref (r 0)), (1, .ref ea)]) hl [0, 1, 2, 3] rfl
      rw [e3, e2] at hl
      exact ih ls hlt trivial hl
    · skip
      refine lv_aload_n hx hb dX1_simplest_15 rfl (lv_at hl 2 rfl) ?_
      refine lv_aload_n hx hb dX1_simplest_16 rfl (lv_at hl 3 rfl) ?_
      refine lv_iload_n hx hb dX1_simplest_17 rfl (lv_at hl 0 rfl) ?_
      refine lv_cst (y := nI (n9 - 1 - i)) (dn_at hlt) ?_
      refine ia_ld hx hb hK hE 0 0 rfl rfl (j := (n9 - 1 - i)) (by omega) (by omega) dX1_simplest_18 ?_
      refine pcV_i (As := [.int (nI (e9 (n9 - 1 - i)))]) (rest := []) ⟨hx, hb, hml, hown, hts⟩ (g_S_size l hP htc hnc hac (v := (nI (e9 (n9 - 1 - i)))) (⟨_, he9 _ (by omega), rfl⟩)) (cwV 1 hts gX1_simplest_X1_size rfl rfl rfl hdX1_size ⟨Nat.le_of_ble_eq_true rfl, Nat.le_of_ble_eq_true rfl⟩) (va_recv hK hP (ci := 1) (q0 := 0) rfl rfl) hK rfl hl.1 (Nat.le_of_ble_eq_true rfl) rfl dX1_simplest_19 ⟨Nat.le_of_ble_eq_true rfl, Nat.le_of_ble_eq_true rfl⟩ ?_
      obtain ⟨j9, -, hj9, ej9⟩ := (sdn_k e9 n9 i (by omega)).resolve_left (fun w => c12 (by rw [w]; decide))
      refine lv_aload_n hx hb dX1_simplest_22 rfl (lv_at hl 2 rfl) ?_
      refine lv_iload_n hx hb dX1_simplest_23 rfl (lv_at hl 1 rfl) ?_
      refine pcV_i (As := [.int (sdn e9 n9 i)]) (rest := [.int (bc (nI (e9 (n9 - 1 - i))))]) ⟨hx, hb, hml, hown, hts⟩ (g_S_size l hP htc hnc hac (v := (sdn e9 n9 i)) (⟨e9 j9, he9 j9 hj9, ej9⟩)) (cwV 1 hts gX1_simplest_X1_size rfl rfl rfl hdX1_size ⟨Nat.le_of_ble_eq_true rfl, Nat.le_of_ble_eq_true rfl⟩) (va_recv hK hP (ci := 1) (q0 := 0) rfl rfl) hK rfl hl.1 (Nat.le_of_ble_eq_true rfl) rfl dX1_simplest_24 ⟨Nat.le_of_ble_eq_true rfl, Nat.le_of_ble_eq_true rfl⟩ ?_
      refine lv_icmp_gt (tgt := 34) hx hb dX1_simplest_27 (by decide) (fun c27 => ?_) (fun c27 => ?_)
      · skip
        refine lv_iinc (v := (nI (n9 - i) - 1) + (-1)) (lv' := [(3, .int ((nI (n9 - i) - 1) + (-1))), (2, .int (sdn e9 n9 i)), (0, .ref (r 0)), (1, .ref ea)]) hx hb dX1_simplest_34 hl (k := 0) rfl rfl (by decide) rfl (fun ls hl => ?_)
        refine lv_goto (tgt := 7) hx hb dX1_simplest_37 (by decide) ?_
        have e3 : ((nI (n9 - i) - 1) + (-1)) = nI (n9 - (i + 1)) - 1 := dn_s hlt
        have e2 : (sdn e9 n9 i) = sdn e9 n9 (i + 1) := by first | exact (sdn_a c12).symm | exact (sdn_b (Int32.not_lt.mp c27)).symm | exact (sdn_c c12 (Int32.not_le.mpr c27)).symm
        have hl := lv_sub (l' := [(3, .int ((nI (n9 - i) - 1) + (-1))), (2, .int (sdn e9 n9 i)), (0, .ref (r 0)), (1, .ref ea)]) hl [0, 1, 2, 3] rfl
        rw [e3, e2] at hl
        exact ih ls hlt trivial hl
      · skip
        refine lv_aload_n hx hb dX1_simplest_30 rfl (lv_at hl 3 rfl) ?_
        refine lv_iload_n hx hb dX1_simplest_31 rfl (lv_at hl 0 rfl) ?_
        refine lv_cst (y := nI (n9 - 1 - i)) (dn_at hlt) ?_
        refine ia_ld hx hb hK hE 0 0 rfl rfl (j := (n9 - 1 - i)) (by omega) (by omega) dX1_simplest_32 ?_
        refine lv_istore_n (lv' := [(2, .int (nI (e9 (n9 - 1 - i)))), (3, .int (nI (n9 - i) - 1)), (0, .ref (r 0)), (1, .ref ea)]) hx hb dX1_simplest_33 rfl hl (by decide) rfl (fun ls hl => ?_)
        refine lv_iinc (v := (nI (n9 - i) - 1) + (-1)) (lv' := [(3, .int ((nI (n9 - i) - 1) + (-1))), (2, .int (nI (e9 (n9 - 1 - i)))), (0, .ref (r 0)), (1, .ref ea)]) hx hb dX1_simplest_34 hl (k := 1) rfl rfl (by decide) rfl (fun ls hl => ?_)
        refine lv_goto (tgt := 7) hx hb dX1_simplest_37 (by decide) ?_
        have e3 : ((nI (n9 - i) - 1) + (-1)) = nI (n9 - (i + 1)) - 1 := dn_s hlt
        have e2 : (nI (e9 (n9 - 1 - i))) = sdn e9 n9 (i + 1) := by first | exact (sdn_a c12).symm | exact (sdn_b (Int32.not_lt.mp c27)).symm | exact (sdn_c c12 (Int32.not_le.mpr c27)).symm
        have hl := lv_sub (l' := [(3, .int ((nI (n9 - i) - 1) + (-1))), (2, .int (nI (e9 (n9 - 1 - i)))), (0, .ref (r 0)), (1, .ref ea)]) hl [0, 1, 2, 3] rfl
        rw [e3, e2] at hl
        exact ih ls hlt trivial hl
set_option maxHeartbeats 4000000 in
set_option maxRecDepth 100000 in
theorem g_S_isCleared (l : Launch) {D : va_G} {cI cR : ClassId} {r nr ar : Nat → Nat} {tc nc ac : Nat} {ch : Int32} {U : Nat → Int32} {Z : Nat → Bool} {B L F : Nat → Int32} {H : Heap} (hP : va_P D vwCl (wS cI cR r nr ar tc nc ac ch U Z B L F) H) (htc : tc ≤ 8) (hnc : nc ≤ 40) (hac : ac ≤ 8) (hU : ∀ j, ∃ k, k < pw tc ∧ U j = nI k) {t : Nat} (ht : t < tc) : Met l yX1_isCleared wsX1_isCleared ({ frames := 1, cells := 0, slots := 0, locals := 23 }) (va_Pc [.ref (r 0), .int (nI t)] (rd D vwCl (tyS cI cR) H)) (vp_Si (fun r => r = bI (ho (cld U Z nc) (nI t)))) 0 0 (fun _ => False) := by
  refine Met.ofW (cc := cX1_isCleared) (maxL := 6) (ret := (some .boolean)) (by decide) rfl ?_
  intro p e s m args below meth c s₁ B9 hml hv
  obtain ⟨rfl, hH, hK⟩ := hv
  subst hH
  have hx := B9.exec
  have hb := B9.bytes
  have hr := B9.returns
  have hts := atoms_spec (ws := wsX1_isCleared) B9.pre
  have hown : s.vm.findClass RX1 = some m.cls := findClass_of_methodNamed B9.named
  have hlocks := B9.notSynchronized
  have hin : ∀ w ∈ u_ws RX1 TX1 4, w ∈ wsX1_isCleared := fun w h => List.mem_cons_of_mem _ (List.mem_append_right _ h)
  have hl := lv_entry ([.ref (r 0), .int (nI t)]) (n := 6) (Nat.le_of_ble_eq_true rfl)
  rw [lg_entry_eq]
  generalize (lg_sl ([.ref (r 0), .int (nI t)]) ++ List.replicate (6 - (lg_sl ([.ref (r 0), .int (nI t)])).length) Slot.unset).toArray = ls at hl ⊢
  have hl : lv_has ls 6 [(0, .ref (r 0)), (1, .int (nI t))] := hl
  refine lv_aload_n hx hb dX1_isCleared_0 rfl (lv_at hl 0 rfl) ?_
  refine va_get (D := D) (ci := 1) (v := .ref (r 1)) (C := RX1) (T := TX1) (N := 4) hx hb hts hin hown hK hP 0 rfl rfl 1 (by decide) (hts (.fieldLink RX1 9 "SmudgedStarLaw$Sim" "nights" "[[I") (List.mem_of_getElem? (i := 1) rfl)) (fun _ h9 => h9) rfl dX1_isCleared_1 ?_
  refine lv_astore_n (lv' := [(2, .ref (r 1)), (0, .ref (r 0)), (1, .int (nI t))]) hx hb dX1_isCleared_4 rfl hl (by decide) rfl (fun ls hl => ?_)
  refine lv_aload_n hx hb dX1_isCleared_5 rfl (lv_at hl 0 rfl) ?_
  refine va_alen (v := nI nc) hx hb hK hP 1 1 rfl rfl rfl dX1_isCleared_6 ?_
  refine lv_istore_n (lv' := [(3, .int (nI nc)), (2, .ref (r 1)), (0, .ref (r 0)), (1, .int (nI t))]) hx hb dX1_isCleared_7 rfl hl (by decide) rfl (fun ls hl => ?_)
  refine lv_iconst (v := 0) hx hb dX1_isCleared_8 (by decide) ?_
  refine lv_istore (lv' := [(4, .int 0), (3, .int (nI nc)), (2, .ref (r 1)), (0, .ref (r 0)), (1, .int (nI t))]) hx hb dX1_isCleared_9 hl (by decide) rfl (fun ls hl => ?_)
  refine w_loop (N := nc) (T := fun i => [(4, .int (nI i)), (3, .int (nI nc)), (2, .ref (r 1)), (0, .ref (r 0)), (1, .int (nI t))]) (I := fun i => anyb (fun j => !(Z j) && ho (U j) (nI t)) i = false) 0 (Nat.zero_le _) rfl (lv_sub hl [0, 1, 2, 3, 4] rfl) (fun i ls hi hI hl ih => ?_)
  have hI : anyb (fun j => !(Z j) && ho (U j) (nI t)) i = false := hI
  have hl : lv_has ls 6 [(4, .int (nI i)), (3, .int (nI nc)), (2, .ref (r 1)), (0, .ref (r 0)), (1, .int (nI t))] := hl
  refine lv_iload hx hb dX1_isCleared_11 (lv_at hl 0 rfl) ?_
  refine lv_iload_n hx hb dX1_isCleared_13 rfl (lv_at hl 1 rfl) ?_
  refine lv_icmp_ge (tgt := 49) hx hb dX1_isCleared_14 (by decide) (fun c14 => ?_) (fun c14 => ?_)
  · skip
    have hie : i = nc := gd_ge_t (by omega) hi c14
    rw [hie] at hl
    rw [hie] at hI
    refine lv_iconst (v := 0) hx hb dX1_isCleared_49 (by decide) ?_
    exact W.zret (v := 0) (ty := .boolean) hx hb hr (rfl) (fun t9 ht9 hW9 => ⟨0, rfl, (by rw [← cl_any U Z (by omega), hI]; rfl), ht9⟩) (fun _ h => absurd h List.not_mem_nil) dX1_isCleared_50
  · skip
    have hlt : i < nc := gd_ge_f hi c14
    refine lv_aload_n hx hb dX1_isCleared_17 rfl (lv_at hl 2 rfl) ?_
    refine lv_iload hx hb dX1_isCleared_18 (lv_at hl 0 rfl) ?_
    refine ra_ld hx hb hK hP 1 1 rfl rfl (j := i) rfl (hlt) (by omega) dX1_isCleared_20 ?_
    refine lv_astore (lv' := [(5, .ref (nr i)), (4, .int (nI i)), (3, .int (nI nc)), (2, .ref (r 1)), (0, .ref (r 0)), (1, .int (nI t))]) hx hb dX1_isCleared_21 hl (by decide) rfl (fun ls hl => ?_)
    refine lv_aload hx hb dX1_isCleared_23 (lv_at hl 0 rfl) ?_
    refine lv_iconst (v := 1) hx hb dX1_isCleared_25 (by decide) ?_
    refine rn_1 hx hb hK hP (j := i) (hlt) dX1_isCleared_26 ?_
    refine lv_ifb_ne (tgt := 43) hx hb dX1_isCleared_27 (by decide) (fun c27 => ?_) (fun c27 => ?_)
    · skip
      refine lv_iinc (v := nI (i + 1)) (lv' := [(4, .int (nI (i + 1))), (5, .ref (nr i)), (3, .int (nI nc)), (2, .ref (r 1)), (0, .ref (r 0)), (1, .int (nI t))]) hx hb dX1_isCleared_43 hl (k := 1) rfl (nI_1 _) (by decide) rfl (fun ls hl => ?_)
      refine lv_goto (tgt := 11) hx hb dX1_isCleared_46 (by decide) ?_
      have hl := lv_sub (l' := [(4, .int (nI (i + 1))), (3, .int (nI nc)), (2, .ref (r 1)), (0, .ref (r 0)), (1, .int (nI t))]) hl [0, 2, 3, 4, 5] rfl
      exact ih ls hlt (anyb_s hI (by first | (simp only [c27, Bool.not_true, Bool.false_and]; done) | (simp only [c38, Bool.and_false]; done))) hl
    · skip
      refine lv_aload hx hb dX1_isCleared_30 (lv_at hl 0 rfl) ?_
      refine lv_iconst (v := 0) hx hb dX1_isCleared_32 (by decide) ?_
      refine rn_0 hx hb hK hP (j := i) (hlt) dX1_isCleared_33 ?_
      refine lv_iload_n hx hb dX1_isCleared_34 rfl (lv_at hl 5 rfl) ?_
      refine pcS_i (As := [.int (U i), .int (nI t)]) (rest := []) ⟨hx, hb, hml, hown, hts⟩ (g_S_isInV l (v := (U i)) (t := t) htc (hU i) ht) (va_cwS 2 hts gX1_isCleared_X1_isIn rfl rfl rfl hdX1_isIn ⟨Nat.le_of_ble_eq_true rfl, Nat.le_of_ble_eq_true rfl⟩) rfl hl.1 (Nat.le_of_ble_eq_true rfl) rfl dX1_isCleared_35 ⟨Nat.le_of_ble_eq_true rfl, Nat.le_of_ble_eq_true rfl⟩ ?_
      refine lv_ifb_eq (tgt := 43) hx hb dX1_isCleared_38 (by decide) (fun c38 => ?_) (fun c38 => ?_)
      · skip
        refine lv_iinc (v := nI (i + 1)) (lv' := [(4, .int (nI (i + 1))), (5, .ref (nr i)), (3, .int (nI nc)), (2, .ref (r 1)), (0, .ref (r 0)), (1, .int (nI t))]) hx hb dX1_isCleared_43 hl (k := 1) rfl (nI_1 _) (by decide) rfl (fun ls hl => ?_)
        refine lv_goto (tgt := 11) hx hb dX1_isCleared_46 (by decide) ?_
        have hl := lv_sub (l' := [(4, .int (nI (i + 1))), (3, .int (nI nc)), (2, .ref (r 1)), (0, .ref (r 0)), (1, .int (nI t))]) hl [0, 2, 3, 4, 5] rfl
        exact ih ls hlt (anyb_s hI (by first | (simp only [c27, Bool.not_true, Bool.false_and]; done) | (simp only [c38, Bool.and_false]; done))) hl
      · skip
        refine lv_iconst (v := 1) hx hb dX1_isCleared_41 (by decide) ?_
        exact W.zret (v := 1) (ty := .boolean) hx hb hr (rfl) (fun t9 ht9 hW9 => ⟨1, rfl, (by rw [← cl_any U Z (by omega), anyb_of (p := (fun j => !(Z j) && ho (U j) (nI t))) (i := i) (by simp only [c27, c38, Bool.not_false, Bool.true_and]) nc hlt]; rfl), ht9⟩) (fun _ h => absurd h List.not_mem_nil) dX1_isCleared_42
theorem al_1 {a b : Bool} (h : b = true) : bI a &&& 1 = bI (a && b) := by rw [h, ← bI_and]; rfl
theorem al_0 {a b : Bool} (h : b = false) : bI a &&& 0 = bI (a && b) := by rw [h, ← bI_and]; rfl
theorem pv_allV {tc t : Nat} {c v : Int32} (hc : tc ≤ 8) (hv : ∃ k, k < pw tc ∧ v = nI k) (ht : t < tc) : allb (fun o => decide (nI o = nI t) || !(ho v (nI o)) || ho c (nI o)) tc = decide (v &&& ((c ||| ((1 : Int32) <<< (nI t &&& 31))) ^^^ (-1)) = 0) := by
  obtain ⟨k, hk, rfl⟩ := hv
  exact pv_all hc hk ht
set_option maxHeartbeats 4000000 in
set_option maxRecDepth 100000 in
theorem g_S_isProved (l : Launch) {D : va_G} {cI cR : ClassId} {r nr ar : Nat → Nat} {tc nc ac : Nat} {ch : Int32} {U : Nat → Int32} {Z : Nat → Bool} {B L F : Nat → Int32} {H : Heap} (hP : va_P D vwCl (wS cI cR r nr ar tc nc ac ch U Z B L F) H) (htc : tc ≤ 8) (hnc : nc ≤ 40) (hac : ac ≤ 8) (hU : ∀ j, ∃ k, k < pw tc ∧ U j = nI k) {t : Nat} (ht : t < tc) : Met l yX1_isProved wsX1_isProved ({ frames := 2, cells := 0, slots := 0, locals := 48 }) (va_Pc [.ref (r 0), .int (nI t)] (rd D vwCl (tyS cI cR) H)) (vp_Si (fun r => r = bI (anyb (fun j => Z j && ho (U j) (nI t) && decide (U j &&& ((cld U Z nc ||| ((1 : Int32) <<< (nI t &&& 31))) ^^^ (-1)) = 0)) nc))) 0 0 (fun _ => False) := by
  refine Met.ofW (cc := cX1_isProved) (maxL := 8) (ret := (some .boolean)) (by decide) rfl ?_
  intro p e s m args below meth c s₁ B9 hml hv
  obtain ⟨rfl, hH, hK⟩ := hv
  subst hH
  have hx := B9.exec
  have hb := B9.bytes
  have hr := B9.returns
  have hts := atoms_spec (ws := wsX1_isProved) B9.pre
  have hown : s.vm.findClass RX1 = some m.cls := findClass_of_methodNamed B9.named
  have hlocks := B9.notSynchronized
  have hin : ∀ w ∈ u_ws RX1 TX1 4, w ∈ wsX1_isProved := fun w h => List.mem_cons_of_mem _ (List.mem_append_right _ h)
  have hl := lv_entry ([.ref (r 0), .int (nI t)]) (n := 8) (Nat.le_of_ble_eq_true rfl)
  rw [lg_entry_eq]
  generalize (lg_sl ([.ref (r 0), .int (nI t)]) ++ List.replicate (8 - (lg_sl ([.ref (r 0), .int (nI t)])).length) Slot.unset).toArray = ls at hl ⊢
  have hl : lv_has ls 8 [(0, .ref (r 0)), (1, .int (nI t))] := hl
  refine lv_aload_n hx hb dX1_isProved_0 rfl (lv_at hl 0 rfl) ?_
  refine va_get (D := D) (ci := 1) (v := .ref (r 1)) (C := RX1) (T := TX1) (N := 4) hx hb hts hin hown hK hP 0 rfl rfl 1 (by decide) (hts (.fieldLink RX1 9 "SmudgedStarLaw$Sim" "nights" "[[I") (List.mem_of_getElem? (i := 1) rfl)) (fun _ h9 => h9) rfl dX1_isProved_1 ?_
  refine lv_astore_n (lv' := [(2, .ref (r 1)), (0, .ref (r 0)), (1, .int (nI t))]) hx hb dX1_isProved_4 rfl hl (by decide) rfl (fun ls hl => ?_)
  refine lv_aload_n hx hb dX1_isProved_5 rfl (lv_at hl 0 rfl) ?_
  refine va_alen (v := nI nc) hx hb hK hP 1 1 rfl rfl rfl dX1_isProved_6 ?_
  refine lv_istore_n (lv' := [(3, .int (nI nc)), (2, .ref (r 1)), (0, .ref (r 0)), (1, .int (nI t))]) hx hb dX1_isProved_7 rfl hl (by decide) rfl (fun ls hl => ?_)
  refine lv_iconst (v := 0) hx hb dX1_isProved_8 (by decide) ?_
  refine lv_istore (lv' := [(4, .int 0), (3, .int (nI nc)), (2, .ref (r 1)), (0, .ref (r 0)), (1, .int (nI t))]) hx hb dX1_isProved_9 hl (by decide) rfl (fun ls hl => ?_)
  refine w_loop (N := nc) (T := fun i => [(4, .int (nI i)), (3, .int (nI nc)), (2, .ref (r 1)), (0, .ref (r 0)), (1, .int (nI t))]) (I := fun i => anyb (fun j => Z j && ho (U j) (nI t) && decide (U j &&& ((cld U Z nc ||| ((1 : Int32) <<< (nI t &&& 31))) ^^^ (-1)) = 0)) i = false) 0 (Nat.zero_le _) rfl (lv_sub hl [0, 1, 2, 3, 4] rfl) (fun i ls hi hI hl ih => ?_)
  have hI : anyb (fun j => Z j && ho (U j) (nI t) && decide (U j &&& ((cld U Z nc ||| ((1 : Int32) <<< (nI t &&& 31))) ^^^ (-1)) = 0)) i = false := hI
  have hl : lv_has ls 8 [(4, .int (nI i)), (3, .int (nI nc)), (2, .ref (r 1)), (0, .ref (r 0)), (1, .int (nI t))] := hl
  refine lv_iload hx hb dX1_isProved_11 (lv_at hl 0 rfl) ?_
  refine lv_iload_n hx hb dX1_isProved_13 rfl (lv_at hl 1 rfl) ?_
  refine lv_icmp_ge (tgt := 115) hx hb dX1_isProved_14 (by decide) (fun c14 => ?_) (fun c14 => ?_)
  · skip
    have hie : i = nc := gd_ge_t (by omega) hi c14
    rw [hie] at hl
    rw [hie] at hI
    refine lv_iconst (v := 0) hx hb dX1_isProved_115 (by decide) ?_
    exact W.zret (v := 0) (ty := .boolean) hx hb hr (rfl) (fun t9 ht9 hW9 => ⟨0, rfl, (by rw [hI]; rfl), ht9⟩) (fun _ h => absurd h List.not_mem_nil) dX1_isProved_116
  · skip
    have hlt : i < nc := gd_ge_f hi c14
    refine lv_aload_n hx hb dX1_isProved_17 rfl (lv_at hl 2 rfl) ?_
    refine lv_iload hx hb dX1_isProved_18 (lv_at hl 0 rfl) ?_
    refine ra_ld hx hb hK hP 1 1 rfl rfl (j := i) rfl (hlt) (by omega) dX1_isProved_20 ?_
    refine lv_astore (lv' := [(5, .ref (nr i)), (4, .int (nI i)), (3, .int (nI nc)), (2, .ref (r 1)), (0, .ref (r 0)), (1, .int (nI t))]) hx hb dX1_isProved_21 hl (by decide) rfl (fun ls hl => ?_)
    refine lv_aload hx hb dX1_isProved_23 (lv_at hl 0 rfl) ?_
    refine lv_iconst (v := 1) hx hb dX1_isProved_25 (by decide) ?_
    refine rn_1 hx hb hK hP (j := i) (hlt) dX1_isProved_26 ?_
    refine lv_ifb_eq (tgt := 109) hx hb dX1_isProved_27 (by decide) (fun c27 => ?_) (fun c27 => ?_)
    · skip
      refine lv_iinc (v := nI (i + 1)) (lv' := [(4, .int (nI (i + 1))), (5, .ref (nr i)), (3, .int (nI nc)), (2, .ref (r 1)), (0, .ref (r 0)), (1, .int (nI t))]) hx hb dX1_isProved_109 hl (k := 1) rfl (nI_1 _) (by decide) rfl (fun ls hl => ?_)
      refine lv_goto (tgt := 11) hx hb dX1_isProved_112 (by decide) ?_
      have hl := lv_sub (l' := [(4, .int (nI (i + 1))), (3, .int (nI nc)), (2, .ref (r 1)), (0, .ref (r 0)), (1, .int (nI t))]) hl [0, 2, 3, 4, 5] rfl
      exact ih ls hlt (anyb_s hI (by first | (simp only [c27, Bool.false_and]; done) | (simp only [c27, c38, Bool.true_and, Bool.false_and]; done) | (simp only [c27, c38, Bool.true_and, ← pv_allV htc (hU i) ht, c104]; done))) hl
    · skip
      refine lv_aload hx hb dX1_isProved_30 (lv_at hl 0 rfl) ?_
      refine lv_iconst (v := 0) hx hb dX1_isProved_32 (by decide) ?_
      refine rn_0 hx hb hK hP (j := i) (hlt) dX1_isProved_33 ?_
      refine lv_iload_n hx hb dX1_isProved_34 rfl (lv_at hl 5 rfl) ?_
      refine pcS_i (As := [.int (U i), .int (nI t)]) (rest := []) ⟨hx, hb, hml, hown, hts⟩ (g_S_isInV l (v := (U i)) (t := t) htc (hU i) ht) (va_cwS 2 hts gX1_isProved_X1_isIn rfl rfl rfl hdX1_isIn ⟨Nat.le_of_ble_eq_true rfl, Nat.le_of_ble_eq_true rfl⟩) rfl hl.1 (Nat.le_of_ble_eq_true rfl) rfl dX1_isProved_35 ⟨Nat.le_of_ble_eq_true rfl, Nat.le_of_ble_eq_true rfl⟩ ?_
      refine lv_ifb_ne (tgt := 44) hx hb dX1_isProved_38 (by decide) (fun c38 => ?_) (fun c38 => ?_)
      · skip
        refine lv_iconst (v := 1) hx hb dX1_isProved_44 (by decide) ?_
        refine lv_istore (lv' := [(6, .int 1), (5, .ref (nr i)), (4, .int (nI i)), (3, .int (nI nc)), (2, .ref (r 1)), (0, .ref (r 0)), (1, .int (nI t))]) hx hb dX1_isProved_45 hl (by decide) rfl (fun ls hl => ?_)
        refine lv_iconst (v := 0) hx hb dX1_isProved_47 (by decide) ?_
        refine lv_istore (lv' := [(7, .int 0), (6, .int 1), (5, .ref (nr i)), (4, .int (nI i)), (3, .int (nI nc)), (2, .ref (r 1)), (0, .ref (r 0)), (1, .int (nI t))]) hx hb dX1_isProved_48 hl (by decide) rfl (fun ls hl => ?_)
        refine w_loop (N := tc) (T := fun jj => [(7, .int (nI jj)), (6, .int (bI (allb (fun o => decide (nI o = nI t) || !(ho (U i) (nI o)) || ho (cld U Z nc) (nI o)) jj))), (5, .ref (nr i)), (4, .int (nI i)), (3, .int (nI nc)), (2, .ref (r 1)), (0, .ref (r 0)), (1, .int (nI t))]) (I := fun _ => True) 0 (Nat.zero_le _) trivial (lv_sub hl [0, 1, 2, 3, 4, 5, 6, 7] rfl) (fun jj ls hi9 hI9 hl ih9 => ?_)
        have hl : lv_has ls 8 [(7, .int (nI jj)), (6, .int (bI (allb (fun o => decide (nI o = nI t) || !(ho (U i) (nI o)) || ho (cld U Z nc) (nI o)) jj))), (5, .ref (nr i)), (4, .int (nI i)), (3, .int (nI nc)), (2, .ref (r 1)), (0, .ref (r 0)), (1, .int (nI t))] := hl
        refine lv_iload hx hb dX1_isProved_50 (lv_at hl 0 rfl) ?_
        refine lv_aload_n hx hb dX1_isProved_52 rfl (lv_at hl 6 rfl) ?_
        refine va_get (D := D) (ci := 1) (v := .int (nI tc)) (C := RX1) (T := TX1) (N := 4) hx hb hts hin hown hK hP 0 rfl rfl 0 (by decide) (hts (.fieldLink RX1 18 "SmudgedStarLaw$Sim" "things" "I") (List.mem_of_getElem? (i := 2) rfl)) (fun _ h9 => h9) rfl dX1_isProved_53 ?_
        refine lv_icmp_ge (tgt := 102) hx hb dX1_isProved_56 (by decide) (fun c56 => ?_) (fun c56 => ?_)
        · skip
          have hie9 : jj = tc := gd_ge_t (by omega) hi9 c56
          rw [hie9] at hl
          refine lv_iload hx hb dX1_isProved_102 (lv_at hl 1 rfl) ?_
          refine lv_ifb_eq (tgt := 109) hx hb dX1_isProved_104 (by decide) (fun c104 => ?_) (fun c104 => ?_)
          · skip
            refine lv_iinc (v := nI (i + 1)) (lv' := [(4, .int (nI (i + 1))), (7, .int (nI tc)), (6, .int (bI (allb (fun o => decide (nI o = nI t) || !(ho (U i) (nI o)) || ho (cld U Z nc) (nI o)) tc))), (5, .ref (nr i)), (3, .int (nI nc)), (2, .ref (r 1)), (0, .ref (r 0)), (1, .int (nI t))]) hx hb dX1_isProved_109 hl (k := 3) rfl (nI_1 _) (by decide) rfl (fun ls hl => ?_)
            refine lv_goto (tgt := 11) hx hb dX1_isProved_112 (by decide) ?_
            have hl := lv_sub (l' := [(4, .int (nI (i + 1))), (3, .int (nI nc)), (2, .ref (r 1)), (0, .ref (r 0)), (1, .int (nI t))]) hl [0, 4, 5, 6, 7] rfl
            exact ih ls hlt (anyb_s hI (by first | (simp only [c27, Bool.false_and]; done) | (simp only [c27, c38, Bool.true_and, Bool.false_and]; done) | (simp only [c27, c38, Bool.true_and, ← pv_allV htc (hU i) ht, c104]; done))) hl
          · skip
            refine lv_iconst (v := 1) hx hb dX1_isProved_107 (by decide) ?_
            exact W.zret (v := 1) (ty := .boolean) hx hb hr (rfl) (fun t9 ht9 hW9 => ⟨1, rfl, (by rw [anyb_of (p := (fun j => Z j && ho (U j) (nI t) && decide (U j &&& ((cld U Z nc ||| ((1 : Int32) <<< (nI t &&& 31))) ^^^ (-1)) = 0))) (i := i) (by simp only [c27, c38, Bool.true_and, ← pv_allV htc (hU i) ht, c104]) nc hlt]; rfl), ht9⟩) (fun _ h => absurd h List.not_mem_nil) dX1_isProved_108
        · skip
          have hlt9 : jj < tc := gd_ge_f hi9 c56
          refine lv_iload hx hb dX1_isProved_59 (lv_at hl 1 rfl) ?_
          refine lv_iload hx hb dX1_isProved_61 (lv_at hl 0 rfl) ?_
          refine lv_iload_n hx hb dX1_isProved_63 rfl (lv_at hl 7 rfl) ?_
          refine lv_icmp_eq (tgt := 88) hx hb dX1_isProved_64 (by decide) (fun c64 => ?_) (fun c64 => ?_)
          · skip
            refine lv_iconst (v := 1) hx hb dX1_isProved_88 (by decide) ?_
            refine lv_goto (tgt := 93) hx hb dX1_isProved_89 (by decide) ?_
            refine lv_iand hx hb dX1_isProved_93 ?_
            refine lv_istore (lv' := [(6, .int ((bI (allb (fun o => decide (nI o = nI t) || !(ho (U i) (nI o)) || ho (cld U Z nc) (nI o)) jj)) &&& 1)), (7, .int (nI jj)), (5, .ref (nr i)), (4, .int (nI i)), (3, .int (nI nc)), (2, .ref (r 1)), (0, .ref (r 0)), (1, .int (nI t))]) hx hb dX1_isProved_94 hl (by decide) rfl (fun ls hl => ?_)
            refine lv_iinc (v := nI (jj + 1)) (lv' := [(7, .int (nI (jj + 1))), (6, .int ((bI (allb (fun o => decide (nI o = nI t) || !(ho (U i) (nI o)) || ho (cld U Z nc) (nI o)) jj)) &&& 1)), (5, .ref (nr i)), (4, .int (nI i)), (3, .int (nI nc)), (2, .ref (r 1)), (0, .ref (r 0)), (1, .int (nI t))]) hx hb dX1_isProved_96 hl (k := 1) rfl (nI_1 _) (by decide) rfl (fun ls hl => ?_)
            refine lv_goto (tgt := 50) hx hb dX1_isProved_99 (by decide) ?_
            have e6 : ((bI (allb (fun o => decide (nI o = nI t) || !(ho (U i) (nI o)) || ho (cld U Z nc) (nI o)) jj)) &&& 1) = bI (allb (fun o => decide (nI o = nI t) || !(ho (U i) (nI o)) || ho (cld U Z nc) (nI o)) (jj + 1)) := by first | exact al_1 (by first | (simp only [decide_eq_true c64, Bool.true_or]; done) | (simp only [c76, Bool.not_false, Bool.or_true, Bool.true_or]; done) | (simp only [c85, Bool.or_true]; done)) | exact al_0 (by simp only [decide_eq_false c64, c76, c85]; rfl)
            have hl := lv_sub (l' := [(7, .int (nI (jj + 1))), (6, .int ((bI (allb (fun o => decide (nI o = nI t) || !(ho (U i) (nI o)) || ho (cld U Z nc) (nI o)) jj)) &&& 1)), (5, .ref (nr i)), (4, .int (nI i)), (3, .int (nI nc)), (2, .ref (r 1)), (0, .ref (r 0)), (1, .int (nI t))]) hl [0, 1, 2, 3, 4, 5, 6, 7] rfl
            rw [e6] at hl
            exact ih9 ls hlt9 trivial hl
          · skip
            refine lv_aload hx hb dX1_isProved_67 (lv_at hl 2 rfl) ?_
            refine lv_iconst (v := 0) hx hb dX1_isProved_69 (by decide) ?_
            refine rn_0 hx hb hK hP (j := i) (hlt) dX1_isProved_70 ?_
            refine lv_iload hx hb dX1_isProved_71 (lv_at hl 0 rfl) ?_
            refine pcS_i (As := [.int (U i), .int (nI jj)]) (rest := [.int (bI (allb (fun o => decide (nI o = nI t) || !(ho (U i) (nI o)) || ho (cld U Z nc) (nI o)) jj))]) ⟨hx, hb, hml, hown, hts⟩ (g_S_isInV l (v := (U i)) (t := jj) htc (hU i) hlt9) (va_cwS 2 hts gX1_isProved_X1_isIn rfl rfl rfl hdX1_isIn ⟨Nat.le_of_ble_eq_true rfl, Nat.le_of_ble_eq_true rfl⟩) rfl hl.1 (Nat.le_of_ble_eq_true rfl) rfl dX1_isProved_73 ⟨Nat.le_of_ble_eq_true rfl, Nat.le_of_ble_eq_true rfl⟩ ?_
            refine lv_ifb_eq (tgt := 88) hx hb dX1_isProved_76 (by decide) (fun c76 => ?_) (fun c76 => ?_)
            · skip
              refine lv_iconst (v := 1) hx hb dX1_isProved_88 (by decide) ?_
              refine lv_goto (tgt := 93) hx hb dX1_isProved_89 (by decide) ?_
              refine lv_iand hx hb dX1_isProved_93 ?_
              refine lv_istore (lv' := [(6, .int ((bI (allb (fun o => decide (nI o = nI t) || !(ho (U i) (nI o)) || ho (cld U Z nc) (nI o)) jj)) &&& 1)), (7, .int (nI jj)), (5, .ref (nr i)), (4, .int (nI i)), (3, .int (nI nc)), (2, .ref (r 1)), (0, .ref (r 0)), (1, .int (nI t))]) hx hb dX1_isProved_94 hl (by decide) rfl (fun ls hl => ?_)
              refine lv_iinc (v := nI (jj + 1)) (lv' := [(7, .int (nI (jj + 1))), (6, .int ((bI (allb (fun o => decide (nI o = nI t) || !(ho (U i) (nI o)) || ho (cld U Z nc) (nI o)) jj)) &&& 1)), (5, .ref (nr i)), (4, .int (nI i)), (3, .int (nI nc)), (2, .ref (r 1)), (0, .ref (r 0)), (1, .int (nI t))]) hx hb dX1_isProved_96 hl (k := 1) rfl (nI_1 _) (by decide) rfl (fun ls hl => ?_)
              refine lv_goto (tgt := 50) hx hb dX1_isProved_99 (by decide) ?_
              have e6 : ((bI (allb (fun o => decide (nI o = nI t) || !(ho (U i) (nI o)) || ho (cld U Z nc) (nI o)) jj)) &&& 1) = bI (allb (fun o => decide (nI o = nI t) || !(ho (U i) (nI o)) || ho (cld U Z nc) (nI o)) (jj + 1)) := by first | exact al_1 (by first | (simp only [decide_eq_true c64, Bool.true_or]; done) | (simp only [c76, Bool.not_false, Bool.or_true, Bool.true_or]; done) | (simp only [c85, Bool.or_true]; done)) | exact al_0 (by simp only [decide_eq_false c64, c76, c85]; rfl)
              have hl := lv_sub (l' := [(7, .int (nI (jj + 1))), (6, .int ((bI (allb (fun o => decide (nI o = nI t) || !(ho (U i) (nI o)) || ho (cld U Z nc) (nI o)) jj)) &&& 1)), (5, .ref (nr i)), (4, .int (nI i)), (3, .int (nI nc)), (2, .ref (r 1)), (0, .ref (r 0)), (1, .int (nI t))]) hl [0, 1, 2, 3, 4, 5, 6, 7] rfl
              rw [e6] at hl
              exact ih9 ls hlt9 trivial hl
            · skip
              refine lv_aload_n hx hb dX1_isProved_79 rfl (lv_at hl 6 rfl) ?_
              refine lv_iload hx hb dX1_isProved_80 (lv_at hl 0 rfl) ?_
              refine pcV_i (As := [.int (nI jj)]) (rest := [.int (bI (allb (fun o => decide (nI o = nI t) || !(ho (U i) (nI o)) || ho (cld U Z nc) (nI o)) jj))]) ⟨hx, hb, hml, hown, hts⟩ (g_S_isCleared l hP htc hnc hac hU (t := jj) hlt9) (cwV 1 hts gX1_isProved_X1_isCleared rfl rfl rfl hdX1_isCleared ⟨Nat.le_of_ble_eq_true rfl, Nat.le_of_ble_eq_true rfl⟩) (va_recv hK hP (ci := 1) (q0 := 0) rfl rfl) hK rfl hl.1 (Nat.le_of_ble_eq_true rfl) rfl dX1_isProved_82 ⟨Nat.le_of_ble_eq_true rfl, Nat.le_of_ble_eq_true rfl⟩ ?_
              refine lv_ifb_eq (tgt := 92) hx hb dX1_isProved_85 (by decide) (fun c85 => ?_) (fun c85 => ?_)
              · skip
                refine lv_iconst (v := 0) hx hb dX1_isProved_92 (by decide) ?_
                refine lv_iand hx hb dX1_isProved_93 ?_
                refine lv_istore (lv' := [(6, .int ((bI (allb (fun o => decide (nI o = nI t) || !(ho (U i) (nI o)) || ho (cld U Z nc) (nI o)) jj)) &&& 0)), (7, .int (nI jj)), (5, .ref (nr i)), (4, .int (nI i)), (3, .int (nI nc)), (2, .ref (r 1)), (0, .ref (r 0)), (1, .int (nI t))]) hx hb dX1_isProved_94 hl (by decide) rfl (fun ls hl => ?_)
                refine lv_iinc (v := nI (jj + 1)) (lv' := [(7, .int (nI (jj + 1))), (6, .int ((bI (allb (fun o => decide (nI o = nI t) || !(ho (U i) (nI o)) || ho (cld U Z nc) (nI o)) jj)) &&& 0)), (5, .ref (nr i)), (4, .int (nI i)), (3, .int (nI nc)), (2, .ref (r 1)), (0, .ref (r 0)), (1, .int (nI t))]) hx hb dX1_isProved_96 hl (k := 1) rfl (nI_1 _) (by decide) rfl (fun ls hl => ?_)
                refine lv_goto (tgt := 50) hx hb dX1_isProved_99 (by decide) ?_
                have e6 : ((bI (allb (fun o => decide (nI o = nI t) || !(ho (U i) (nI o)) || ho (cld U Z nc) (nI o)) jj)) &&& 0) = bI (allb (fun o => decide (nI o = nI t) || !(ho (U i) (nI o)) || ho (cld U Z nc) (nI o)) (jj + 1)) := by first | exact al_1 (by first | (simp only [decide_eq_true c64, Bool.true_or]; done) | (simp only [c76, Bool.not_false, Bool.or_true, Bool.true_or]; done) | (simp only [c85, Bool.or_true]; done)) | exact al_0 (by simp only [decide_eq_false c64, c76, c85]; rfl)
                have hl := lv_sub (l' := [(7, .int (nI (jj + 1))), (6, .int ((bI (allb (fun o => decide (nI o = nI t) || !(ho (U i) (nI o)) || ho (cld U Z nc) (nI o)) jj)) &&& 0)), (5, .ref (nr i)), (4, .int (nI i)), (3, .int (nI nc)), (2, .ref (r 1)), (0, .ref (r 0)), (1, .int (nI t))]) hl [0, 1, 2, 3, 4, 5, 6, 7] rfl
                rw [e6] at hl
                exact ih9 ls hlt9 trivial hl
              · skip
                refine lv_iconst (v := 1) hx hb dX1_isProved_88 (by decide) ?_
                refine lv_goto (tgt := 93) hx hb dX1_isProved_89 (by decide) ?_
                refine lv_iand hx hb dX1_isProved_93 ?_
                refine lv_istore (lv' := [(6, .int ((bI (allb (fun o => decide (nI o = nI t) || !(ho (U i) (nI o)) || ho (cld U Z nc) (nI o)) jj)) &&& 1)), (7, .int (nI jj)), (5, .ref (nr i)), (4, .int (nI i)), (3, .int (nI nc)), (2, .ref (r 1)), (0, .ref (r 0)), (1, .int (nI t))]) hx hb dX1_isProved_94 hl (by decide) rfl (fun ls hl => ?_)
                refine lv_iinc (v := nI (jj + 1)) (lv' := [(7, .int (nI (jj + 1))), (6, .int ((bI (allb (fun o => decide (nI o = nI t) || !(ho (U i) (nI o)) || ho (cld U Z nc) (nI o)) jj)) &&& 1)), (5, .ref (nr i)), (4, .int (nI i)), (3, .int (nI nc)), (2, .ref (r 1)), (0, .ref (r 0)), (1, .int (nI t))]) hx hb dX1_isProved_96 hl (k := 1) rfl (nI_1 _) (by decide) rfl (fun ls hl => ?_)
                refine lv_goto (tgt := 50) hx hb dX1_isProved_99 (by decide) ?_
                have e6 : ((bI (allb (fun o => decide (nI o = nI t) || !(ho (U i) (nI o)) || ho (cld U Z nc) (nI o)) jj)) &&& 1) = bI (allb (fun o => decide (nI o = nI t) || !(ho (U i) (nI o)) || ho (cld U Z nc) (nI o)) (jj + 1)) := by first | exact al_1 (by first | (simp only [decide_eq_true c64, Bool.true_or]; done) | (simp only [c76, Bool.not_false, Bool.or_true, Bool.true_or]; done) | (simp only [c85, Bool.or_true]; done)) | exact al_0 (by simp only [decide_eq_false c64, c76, c85]; rfl)
                have hl := lv_sub (l' := [(7, .int (nI (jj + 1))), (6, .int ((bI (allb (fun o => decide (nI o = nI t) || !(ho (U i) (nI o)) || ho (cld U Z nc) (nI o)) jj)) &&& 1)), (5, .ref (nr i)), (4, .int (nI i)), (3, .int (nI nc)), (2, .ref (r 1)), (0, .ref (r 0)), (1, .int (nI t))]) hl [0, 1, 2, 3, 4, 5, 6, 7] rfl
                rw [e6] at hl
                exact ih9 ls hlt9 trivial hl
      · skip
        refine lv_goto (tgt := 109) hx hb dX1_isProved_41 (by decide) ?_
        refine lv_iinc (v := nI (i + 1)) (lv' := [(4, .int (nI (i + 1))), (5, .ref (nr i)), (3, .int (nI nc)), (2, .ref (r 1)), (0, .ref (r 0)), (1, .int (nI t))]) hx hb dX1_isProved_109 hl (k := 1) rfl (nI_1 _) (by decide) rfl (fun ls hl => ?_)
        refine lv_goto (tgt := 11) hx hb dX1_isProved_112 (by decide) ?_
        have hl := lv_sub (l' := [(4, .int (nI (i + 1))), (3, .int (nI nc)), (2, .ref (r 1)), (0, .ref (r 0)), (1, .int (nI t))]) hl [0, 2, 3, 4, 5] rfl
        exact ih ls hlt (anyb_s hI (by first | (simp only [c27, Bool.false_and]; done) | (simp only [c27, c38, Bool.true_and, Bool.false_and]; done) | (simp only [c27, c38, Bool.true_and, ← pv_allV htc (hU i) ht, c104]; done))) hl
set_option maxHeartbeats 4000000 in
set_option maxRecDepth 100000 in
theorem g_S_votes (l : Launch) {D : va_G} {cI cR : ClassId} {r nr ar : Nat → Nat} {tc nc ac : Nat} {ch : Int32} {U : Nat → Int32} {Z : Nat → Bool} {B L F : Nat → Int32} {H : Heap} (hP : va_P D vwCl (wS cI cR r nr ar tc nc ac ch U Z B L F) H) (htc : tc ≤ 8) (hnc : nc ≤ 40) (hac : ac ≤ 8) (hB : ∀ a, ∃ k, k < pw tc ∧ B a = nI k) {t : Nat} (ht : t < tc) : Met l yX1_votes wsX1_votes ({ frames := 1, cells := 0, slots := 0, locals := 23 }) (va_Pc [.ref (r 0), .int (nI t)] (rd D vwCl (tyS cI cR) H)) (vp_Si (fun r => r = nI (ct (fun a => ho (B a) (nI t)) ac))) 0 0 (fun _ => False) := by
  refine Met.ofW (cc := cX1_votes) (maxL := 7) (ret := (some .int)) (by decide) rfl ?_
  intro p e s m args below meth c s₁ B9 hml hv
  obtain ⟨rfl, hH, hK⟩ := hv
  subst hH
  have hx := B9.exec
  have hb := B9.bytes
  have hr := B9.returns
  have hts := atoms_spec (ws := wsX1_votes) B9.pre
  have hown : s.vm.findClass RX1 = some m.cls := findClass_of_methodNamed B9.named
  have hlocks := B9.notSynchronized
  have hin : ∀ w ∈ u_ws RX1 TX1 4, w ∈ wsX1_votes := fun w h => List.mem_cons_of_mem _ (List.mem_append_right _ h)
  have hl := lv_entry ([.ref (r 0), .int (nI t)]) (n := 7) (Nat.le_of_ble_eq_true rfl)
  rw [lg_entry_eq]
  generalize (lg_sl ([.ref (r 0), .int (nI t)]) ++ List.replicate (7 - (lg_sl ([.ref (r 0), .int (nI t)])).length) Slot.unset).toArray = ls at hl ⊢
  have hl : lv_has ls 7 [(0, .ref (r 0)), (1, .int (nI t))] := hl
  refine lv_iconst (v := 0) hx hb dX1_votes_0 (by decide) ?_
  refine lv_istore_n (lv' := [(2, .int 0), (0, .ref (r 0)), (1, .int (nI t))]) hx hb dX1_votes_1 rfl hl (by decide) rfl (fun ls hl => ?_)
  refine lv_aload_n hx hb dX1_votes_2 rfl (lv_at hl 1 rfl) ?_
  refine va_get (D := D) (ci := 1) (v := .ref (r 2)) (C := RX1) (T := TX1) (N := 4) hx hb hts hin hown hK hP 0 rfl rfl 2 (by decide) (hts (.fieldLink RX1 15 "SmudgedStarLaw$Sim" "astronomers" "[[I") (List.mem_of_getElem? (i := 1) rfl)) (fun _ h9 => h9) rfl dX1_votes_3 ?_
  refine lv_astore_n (lv' := [(3, .ref (r 2)), (2, .int 0), (0, .ref (r 0)), (1, .int (nI t))]) hx hb dX1_votes_6 rfl hl (by decide) rfl (fun ls hl => ?_)
  refine lv_aload_n hx hb dX1_votes_7 rfl (lv_at hl 0 rfl) ?_
  refine va_alen (v := nI ac) hx hb hK hP 2 1 rfl rfl rfl dX1_votes_8 ?_
  refine lv_istore (lv' := [(4, .int (nI ac)), (3, .ref (r 2)), (2, .int 0), (0, .ref (r 0)), (1, .int (nI t))]) hx hb dX1_votes_9 hl (by decide) rfl (fun ls hl => ?_)
  refine lv_iconst (v := 0) hx hb dX1_votes_11 (by decide) ?_
  refine lv_istore (lv' := [(5, .int 0), (4, .int (nI ac)), (3, .ref (r 2)), (2, .int 0), (0, .ref (r 0)), (1, .int (nI t))]) hx hb dX1_votes_12 hl (by decide) rfl (fun ls hl => ?_)
  refine w_loop (N := ac) (T := fun i => [(5, .int (nI i)), (4, .int (nI ac)), (3, .ref (r 2)), (2, .int (nI (ct (fun a => ho (B a) (nI t)) i))), (0, .ref (r 0)), (1, .int (nI t))]) (I := fun _ => True) 0 (Nat.zero_le _) trivial (lv_sub hl [0, 1, 2, 3, 4, 5] rfl) (fun i ls hi hI hl ih => ?_)
  have hl : lv_has ls 7 [(5, .int (nI i)), (4, .int (nI ac)), (3, .ref (r 2)), (2, .int (nI (ct (fun a => ho (B a) (nI t)) i))), (0, .ref (r 0)), (1, .int (nI t))] := hl
  refine lv_iload hx hb dX1_votes_14 (lv_at hl 0 rfl) ?_
  refine lv_iload hx hb dX1_votes_16 (lv_at hl 1 rfl) ?_
  refine lv_icmp_ge (tgt := 52) hx hb dX1_votes_18 (by decide) (fun c18 => ?_) (fun c18 => ?_)
  · skip
    have hie : i = ac := gd_ge_t (by omega) hi c18
    rw [hie] at hl
    refine lv_iload_n hx hb dX1_votes_52 rfl (lv_at hl 3 rfl) ?_
    exact W.iret (v := nI (ct (fun a => ho (B a) (nI t)) ac)) hx hb hr (fun t9 ht9 hW9 => ⟨nI (ct (fun a => ho (B a) (nI t)) ac), rfl, rfl, ht9⟩) (fun _ h => absurd h List.not_mem_nil) dX1_votes_53
  · skip
    have hlt : i < ac := gd_ge_f hi c18
    refine lv_aload_n hx hb dX1_votes_21 rfl (lv_at hl 2 rfl) ?_
    refine lv_iload hx hb dX1_votes_22 (lv_at hl 0 rfl) ?_
    refine ra_ld hx hb hK hP 2 1 rfl rfl (j := i) rfl (hlt) (by omega) dX1_votes_24 ?_
    refine lv_astore (lv' := [(6, .ref (ar i)), (5, .int (nI i)), (4, .int (nI ac)), (3, .ref (r 2)), (2, .int (nI (ct (fun a => ho (B a) (nI t)) i))), (0, .ref (r 0)), (1, .int (nI t))]) hx hb dX1_votes_25 hl (by decide) rfl (fun ls hl => ?_)
    refine lv_iload_n hx hb dX1_votes_27 rfl (lv_at hl 4 rfl) ?_
    refine lv_aload hx hb dX1_votes_28 (lv_at hl 0 rfl) ?_
    refine lv_iconst (v := 0) hx hb dX1_votes_30 (by decide) ?_
    refine rgA_0 hx hb hK hP (j := i) (hlt) dX1_votes_31 ?_
    refine lv_iload_n hx hb dX1_votes_32 rfl (lv_at hl 6 rfl) ?_
    refine pcS_i (As := [.int (B i), .int (nI t)]) (rest := [.int (nI (ct (fun a => ho (B a) (nI t)) i))]) ⟨hx, hb, hml, hown, hts⟩ (g_S_isInV l (v := (B i)) (t := t) htc (hB i) ht) (va_cwS 2 hts gX1_votes_X1_isIn rfl rfl rfl hdX1_isIn ⟨Nat.le_of_ble_eq_true rfl, Nat.le_of_ble_eq_true rfl⟩) rfl hl.1 (Nat.le_of_ble_eq_true rfl) rfl dX1_votes_33 ⟨Nat.le_of_ble_eq_true rfl, Nat.le_of_ble_eq_true rfl⟩ ?_
    refine lv_ifb_eq (tgt := 43) hx hb dX1_votes_36 (by decide) (fun c36 => ?_) (fun c36 => ?_)
    · skip
      refine lv_iconst (v := 0) hx hb dX1_votes_43 (by decide) ?_
      refine lv_iadd hx hb dX1_votes_44 ?_
      refine lv_istore_n (lv' := [(2, .int ((nI (ct (fun a => ho (B a) (nI t)) i)) + 0)), (6, .ref (ar i)), (5, .int (nI i)), (4, .int (nI ac)), (3, .ref (r 2)), (0, .ref (r 0)), (1, .int (nI t))]) hx hb dX1_votes_45 rfl hl (by decide) rfl (fun ls hl => ?_)
      refine lv_iinc (v := nI (i + 1)) (lv' := [(5, .int (nI (i + 1))), (2, .int ((nI (ct (fun a => ho (B a) (nI t)) i)) + 0)), (6, .ref (ar i)), (4, .int (nI ac)), (3, .ref (r 2)), (0, .ref (r 0)), (1, .int (nI t))]) hx hb dX1_votes_46 hl (k := 2) rfl (nI_1 _) (by decide) rfl (fun ls hl => ?_)
      refine lv_goto (tgt := 14) hx hb dX1_votes_49 (by decide) ?_
      have e2 : ((nI (ct (fun a => ho (B a) (nI t)) i)) + 0) = nI (ct (fun a => ho (B a) (nI t)) (i + 1)) := by first | exact ct_t1 (by simp only [c18, c36]) | exact ct_t (by simp only [c18, c36]) | exact ct_f (by simp only [c18, c36]) | exact ct_f0 (by simp only [c18, c36])
      have hl := lv_sub (l' := [(5, .int (nI (i + 1))), (4, .int (nI ac)), (3, .ref (r 2)), (2, .int ((nI (ct (fun a => ho (B a) (nI t)) i)) + 0)), (0, .ref (r 0)), (1, .int (nI t))]) hl [0, 3, 4, 1, 5, 6] rfl
      rw [e2] at hl
      exact ih ls hlt trivial hl
    · skip
      refine lv_iconst (v := 1) hx hb dX1_votes_39 (by decide) ?_
      refine lv_goto (tgt := 44) hx hb dX1_votes_40 (by decide) ?_
      refine lv_iadd hx hb dX1_votes_44 ?_
      refine lv_istore_n (lv' := [(2, .int ((nI (ct (fun a => ho (B a) (nI t)) i)) + 1)), (6, .ref (ar i)), (5, .int (nI i)), (4, .int (nI ac)), (3, .ref (r 2)), (0, .ref (r 0)), (1, .int (nI t))]) hx hb dX1_votes_45 rfl hl (by decide) rfl (fun ls hl => ?_)
      refine lv_iinc (v := nI (i + 1)) (lv' := [(5, .int (nI (i + 1))), (2, .int ((nI (ct (fun a => ho (B a) (nI t)) i)) + 1)), (6, .ref (ar i)), (4, .int (nI ac)), (3, .ref (r 2)), (0, .ref (r 0)), (1, .int (nI t))]) hx hb dX1_votes_46 hl (k := 2) rfl (nI_1 _) (by decide) rfl (fun ls hl => ?_)
      refine lv_goto (tgt := 14) hx hb dX1_votes_49 (by decide) ?_
      have e2 : ((nI (ct (fun a => ho (B a) (nI t)) i)) + 1) = nI (ct (fun a => ho (B a) (nI t)) (i + 1)) := by first | exact ct_t1 (by simp only [c18, c36]) | exact ct_t (by simp only [c18, c36]) | exact ct_f (by simp only [c18, c36]) | exact ct_f0 (by simp only [c18, c36])
      have hl := lv_sub (l' := [(5, .int (nI (i + 1))), (4, .int (nI ac)), (3, .ref (r 2)), (2, .int ((nI (ct (fun a => ho (B a) (nI t)) i)) + 1)), (0, .ref (r 0)), (1, .int (nI t))]) hl [0, 3, 4, 1, 5, 6] rfl
      rw [e2] at hl
      exact ih ls hlt trivial hl
