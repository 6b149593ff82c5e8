/-! the hand-made quarrel: rows of rows, all sets that explain, a new one -/
theorem fill_s (f : Nat → Nat) (i j : Nat) : va_up (fun j => if j < i then some (f j) else none) i (some (f i)) j = if j < i + 1 then some (f j) else none := by
  by_cases h : j = i
  · subst h
    rw [va_up_self, if_pos (by omega)]
  · rw [va_up_ne _ _ h]
    by_cases h2 : j < i
    · rw [if_pos h2, if_pos (by omega)]
    · rw [if_neg h2, if_neg (by omega)]
theorem fill_e (f : Nat → Nat) (i b : Nat) {j : Nat} (hj : j < i + 1) : va_up (fun j => if j < i then some (f j) else none) i (some b) j = some (va_up f i b j) := by
  by_cases h : j = i
  · subst h
    rw [va_up_self, va_up_self]
  · rw [va_up_ne _ _ h, va_up_ne _ _ h, if_pos (by omega)]
set_option maxHeartbeats 4000000 in
set_option maxRecDepth 100000 in
theorem w_S_with (l : Launch) {D : va_G} {cI cR : ClassId} {a0 b0 n nb : Nat} {f : Nat → Nat} {g : Nat → Int32} {H : Heap} (hP : va_P D vwCl [(a0, .inl (cR, n, rf f)), (b0, .inl (cI, nb, .inl g))] H) (hf : ∀ j, j < n → ∃ (nv : Nat) (fv : Nat → Int32), H[f j]? = some (vp_cell cI (nv, .inl fv))) (hn : n ≤ 40) : Met l yX1_with wsX1_with ({ frames := 0, cells := 1, slots := 41, locals := 0 }) (va_Pc [.ref a0, .ref b0] (rdo D vwCl (tyS cI cR) H)) (va_Qr (fun _ : Unit => True) (fun _ q t => H.size ≤ q ∧ va_P D vwCl [(q, .inl (cR, n + 1, rf (va_up f n b0)))] t.heap) (fun z : Nat => H.size ≤ z)) 1 41 (fun z : Nat => H.size ≤ z) := by
  refine Met.ofW (cc := cX1_with) (maxL := 4) (ret := (some (.array (.array .int)))) (by decide) rfl ?_
  intro p e s m args below meth c s₁ B9 hml hv
  obtain ⟨rfl, hH, hK, hov⟩ := hv
  subst hH
  have hx := B9.exec
  have hb := B9.bytes
  have hr := B9.returns
  have hts := atoms_spec (ws := wsX1_with) B9.pre
  have hown : s.vm.findClass RX1 = some m.cls := findClass_of_methodNamed B9.named
  have hlocks := B9.notSynchronized
  have hl := lv_entry ([.ref a0, .ref b0]) (n := 4) (Nat.le_of_ble_eq_true rfl)
  rw [lg_entry_eq]
  generalize (lg_sl ([.ref a0, .ref b0]) ++ List.replicate (4 - (lg_sl ([.ref a0, .ref b0])).length) Slot.unset).toArray = ls at hl ⊢
  have hl : lv_has ls 4 [(0, .ref a0), (1, .ref b0)] := hl
  have hA : ∀ z : Nat, s.heap.size ≤ z → (fun z : Nat => s.heap.size ≤ z) z := fun _ h => h
  have hS : va_S (fun z : Nat => s.heap.size ≤ z) s.heap s.heap [] := va_S.rf
  have hP0 := hP
  have hD0 : va_D (fun z : Nat => s.heap.size ≤ z) ([] : va_W) := ⟨fun i j x y h => by simp at h, fun k x h => by simp at h⟩
  have hE0 : va_P D vwCl ([] : va_W) s.heap := fun k x h => by simp at h
  refine lv_aload_n hx hb dX1_with_0 rfl (lv_at hl 0 rfl) ?_
  refine va_alen (v := nI n) hx hb hK hP 0 1 rfl rfl rfl dX1_with_1 ?_
  refine lv_iconst (v := 1) hx hb dX1_with_2 (by decide) ?_
  refine lv_iadd hx hb dX1_with_3 ?_
  refine ra_new hx hb hown (hts (.classLink RX1 7 "[I") (List.mem_of_getElem? (i := 1) rfl)) hov hK hE0 hD0 hS hA 1 rfl (nI_1 n) (by omega) (Nat.le_of_ble_eq_true rfl) (by show 0 + (n + 1) ≤ 41; omega) dX1_with_4 (fun q H hq hPq hDq hS hold => ?_)
  refine W.widen (k := 1) (n := 41) (Nat.le_of_ble_eq_true rfl) (by omega) ?_
  have hPq : va_P D vwCl [(q, .inl (cR, n + 1, rq (fun _ => none)))] H := hPq
  have hDq : va_D (fun z : Nat => s.heap.size ≤ z) [(q, .inl (cR, n + 1, rq (fun _ => none)))] := hDq
  refine lv_astore_n (lv' := [(2, .ref q), (0, .ref a0), (1, .ref b0)]) hx hb dX1_with_7 rfl hl (by decide) rfl (fun ls hl => ?_)
  refine lv_iconst (v := 0) hx hb dX1_with_8 (by decide) ?_
  refine lv_istore_n (lv' := [(3, .int 0), (2, .ref q), (0, .ref a0), (1, .ref b0)]) hx hb dX1_with_9 rfl hl (by decide) rfl (fun ls hl => ?_)
  refine w_loopG (N := n) (I := fun i ls H locs => lv_has ls 4 [(3, .int (nI i)), (2, .ref q), (0, .ref a0), (1, .ref b0)] ∧ va_P D vwCl [(q, .inl (cR, n + 1, rq (fun j => if j < i then some (f j) else none)))] H ∧ va_S (fun z : Nat => s.heap.size ≤ z) s.heap H locs) (cf := fun _ => 1) (sf := fun _ => 41) 0 (Nat.zero_le _) ⟨lv_sub hl [0, 1, 2, 3] rfl, va_P_refs hPq 0 rfl (fun j _ => rfl), hS⟩ (fun i ls H locs hi hi0 hI ih => ?_)
  obtain ⟨hl, hPq, hS⟩ := hI
  have hDq : va_D (fun z : Nat => s.heap.size ≤ z) [(q, .inl (cR, n + 1, rq (fun j => if j < i then some (f j) else none)))] := va_D_re hDq rfl
  have hP := old_P hP0 hS
  refine lv_iload_n hx hb dX1_with_10 rfl (lv_at hl 0 rfl) ?_
  refine lv_aload_n hx hb dX1_with_11 rfl (lv_at hl 2 rfl) ?_
  refine va_alen (v := nI n) hx hb hK hP 0 1 rfl rfl rfl dX1_with_12 ?_
  refine lv_icmp_ge (tgt := 28) hx hb dX1_with_13 (by decide) (fun c13 => ?_) (fun c13 => ?_)
  · have hie : i = n := gd_ge_t (by omega) hi c13
    subst hie
    refine lv_aload_n hx hb dX1_with_28 rfl (lv_at hl 1 rfl) ?_
    refine lv_aload_n hx hb dX1_with_29 rfl (lv_at hl 2 rfl) ?_
    refine va_alen (v := nI i) hx hb hK hP 0 1 rfl rfl rfl dX1_with_30 ?_
    refine lv_aload_n hx hb dX1_with_31 rfl (lv_at hl 3 rfl) ?_
    refine ra_st hx hb hov hK hPq hDq hS 0 1 0 rfl rfl rfl (j := i) (hP 1 _ rfl) (by omega) (by omega) dX1_with_32 (fun H locs hPq hDq hS => ?_)
    refine lv_aload_n hx hb dX1_with_33 rfl (lv_at hl 1 rfl) ?_
    have hPe : va_P D vwCl [(q, .inl (cR, i + 1, rf (va_up f i b0)))] H := va_P_refs hPq 0 rfl (fun j hj => fill_e f i b0 hj)
    exact W.aret hx hb hr (Or.inr ⟨_, rfl⟩) (Or.inr ⟨_, rfl⟩) (fun t9 ht9 hW9 => ⟨⟨(), q, rfl, trivial, hq, by rw [ht9]; exact hPe⟩, hS.F ht9⟩) hS.2.2 dX1_with_34
  · have hlt : i < n := gd_ge_f hi c13
    refine lv_aload_n hx hb dX1_with_16 rfl (lv_at hl 1 rfl) ?_
    refine lv_iload_n hx hb dX1_with_17 rfl (lv_at hl 0 rfl) ?_
    refine lv_aload_n hx hb dX1_with_18 rfl (lv_at hl 2 rfl) ?_
    refine lv_iload_n hx hb dX1_with_19 rfl (lv_at hl 0 rfl) ?_
    refine ra_ld hx hb hK hP 0 1 rfl rfl (j := i) rfl hlt (by omega) dX1_with_20 ?_
    obtain ⟨nv, fv, hfv⟩ := hf i hlt
    have hfl := (Array.getElem?_eq_some_iff.mp hfv).1
    refine ra_st hx hb hov hK hPq hDq hS 0 1 0 rfl rfl rfl (j := i) ((hS.2.1 _ hfl (Nat.not_le.mpr hfl)).trans hfv) (by omega) (by omega) dX1_with_21 (fun H locs hPq hDq hS => ?_)
    refine lv_iinc (v := nI (i + 1)) (lv' := [(3, .int (nI (i + 1))), (2, .ref q), (0, .ref a0), (1, .ref b0)]) hx hb dX1_with_22 hl (k := 0) rfl (nI_1 _) (by decide) rfl (fun ls hl => ?_)
    refine lv_goto (tgt := 10) hx hb dX1_with_25 (by decide) ?_
    have hl := lv_sub (l' := [(3, .int (nI (i + 1))), (2, .ref q), (0, .ref a0), (1, .ref b0)]) hl [0, 1, 2, 3] rfl
    exact ih ls _ _ hlt ⟨hl, va_P_refs hPq 0 rfl (fun j hj => fill_s f i j), hS⟩
theorem le0_eq {k : Nat} (hk : k < 2 ^ 31) (h : nI k ≤ 0) : nI k = 0 := by
  rw [← nI_0, nI_leI hk (by decide)] at h
  rw [show k = 0 by omega, nI_0]
theorem ex_end {p : Nat → Bool} {i j : Nat} (hz : p i = true) (hj : j < ct p i + 1) : upd (mrg (fun j => nI (el p i j)) (fun _ => 0) (ct p i)) (ct p i) (nI i) j = nI (el p (i + 1) j) := by
  by_cases h : j = ct p i
  · subst h
    rw [pk_us, el_at hz]
  · rw [pk_un h, el_lo hz (by omega)]
    exact if_pos (by omega)
set_option maxHeartbeats 4000000 in
set_option maxRecDepth 100000 in
theorem w_S_explanations (l : Launch) {D : va_G} {cI cR : ClassId} {r nr ar : Nat → Nat} {tc nc ac : Nat} {ch : Int32} {U : Nat → Int32} {Z : Nat → Bool} {B L F : Nat → Int32} {H : Heap} (hP : va_P D vwCl (wS cI cR r nr ar tc nc ac ch U Z B L F) H) (htc : tc ≤ 8) (hnc : nc ≤ 40) (hac : ac ≤ 8) (hU : ∀ j, ∃ k, k < pw tc ∧ U j = nI k) : Met l yX1_explanations wsX1_explanations ({ frames := 3, cells := 257, slots := 65536, locals := 72 }) (va_Pc [.ref (r 0)] (rd D vwCl (tyS cI cR) H)) (va_Qr (fun _ : Unit => True) (fun _ q t => H.size ≤ q ∧ va_P D vwCl [(q, .inl (cI, ct (fun k => zz U Z nc k) (pw tc), .inl (fun j => nI (el (fun k => zz U Z nc k) (pw tc) j))))] t.heap) (fun z : Nat => H.size ≤ z)) 257 65536 (fun z : Nat => H.size ≤ z) := by
  refine Met.ofW (cc := cX1_explanations) (maxL := 5) (ret := (some (.array .int))) (by decide) rfl ?_
  intro p e s m args below meth c s₁ B9 hml hv
  obtain ⟨rfl, hH, hK⟩ := hv
  subst hH
  have hx := B9.exec
  have hb := B9.bytes
  have hr := B9.returns
  have hts := atoms_spec (ws := wsX1_explanations) B9.pre
  have hown : s.vm.findClass RX1 = some m.cls := findClass_of_methodNamed B9.named
  have hlocks := B9.notSynchronized
  have hl := lv_entry ([.ref (r 0)]) (n := 5) (Nat.le_of_ble_eq_true rfl)
  rw [lg_entry_eq]
  generalize (lg_sl ([.ref (r 0)]) ++ List.replicate (5 - (lg_sl ([.ref (r 0)])).length) Slot.unset).toArray = ls at hl ⊢
  have hl : lv_has ls 5 [(0, .ref (r 0))] := hl
  have hA : ∀ z : Nat, s.heap.size ≤ z → (fun z : Nat => s.heap.size ≤ z) z := fun _ h => h
  have hS : va_S (fun z : Nat => s.heap.size ≤ z) s.heap s.heap [] := va_S.rf
  have hP0 := hP
  have hD0 : va_D (fun z : Nat => s.heap.size ≤ z) ([] : va_W) := ⟨fun i j x y h => by simp at h, fun k x h => by simp at h⟩
  have hE0 : va_P D vwCl ([] : va_W) s.heap := fun k x h => by simp at h
  have hpw := pw_in htc
  refine lv_iconst (v := 0) hx hb dX1_explanations_0 (by decide) ?_
  refine va_newa (atype := .int) (ty := .int) (N' := 0) (a0 := (0, .inl (fun _ => 0))) hx hb (hts (.arrayClass .int) (List.mem_of_getElem? (i := 1) rfl)) rfl hK hE0 hD0 hS hA (fun _ => rfl) (by decide) rfl (Nat.le_of_ble_eq_true rfl) (Nat.le_of_ble_eq_true rfl) (Nat.le_of_ble_eq_true rfl) dX1_explanations_1 (fun q k1 H hK1 hPq hDq hS => ?_)
  have e1 : cI = k1 := ty_uniq hK1 (i := 0) (j := 2) rfl rfl
  subst e1
  have hq : s.heap.size ≤ q := hDq.2 0 _ rfl
  have hPq : va_P D vwCl [(q, .inl (cI, ct (fun k => zz U Z nc k) 0, .inl (fun j => nI (el (fun k => zz U Z nc k) 0 j))))] H := va_P_arr hPq 0 rfl (fun j hj => absurd hj (Nat.not_lt_zero j))
  refine lv_astore_n (lv' := [(1, .ref q), (0, .ref (r 0))]) hx hb dX1_explanations_3 rfl hl (by decide) rfl (fun ls hl => ?_)
  refine lv_iconst (v := 0) hx hb dX1_explanations_4 (by decide) ?_
  refine lv_istore_n (lv' := [(2, .int 0), (1, .ref q), (0, .ref (r 0))]) hx hb dX1_explanations_5 rfl hl (by decide) rfl (fun ls hl => ?_)
  refine W.widen (k := 1 + 0) (n := 256 * 0) (by decide) (by decide) ?_
  refine w_loopG (N := pw tc) (I := fun i ls H locs => ∃ q, s.heap.size ≤ q ∧ lv_has ls 5 [(2, .int (nI i)), (1, .ref q), (0, .ref (r 0))] ∧ va_P D vwCl [(q, .inl (cI, ct (fun k => zz U Z nc k) i, .inl (fun j => nI (el (fun k => zz U Z nc k) i j))))] H ∧ va_S (fun z : Nat => s.heap.size ≤ z) s.heap H locs) (cf := fun i => 1 + i) (sf := fun i => 256 * i) 0 (Nat.zero_le _) ⟨q, hq, lv_sub hl [0, 1, 2] rfl, hPq, hS⟩ (fun i ls H locs hi hi0 hI ih => ?_)
  obtain ⟨q, hq, hl, hPq, hS⟩ := hI
  have hDq : va_D (fun z : Nat => s.heap.size ≤ z) [(q, .inl (cI, ct (fun k => zz U Z nc k) i, .inl (fun j => nI (el (fun k => zz U Z nc k) i j))))] := ⟨fun i j x y h1 h2 _ => by have := (List.getElem?_eq_some_iff.mp h1).1; have := (List.getElem?_eq_some_iff.mp h2).1; simp only [List.length_cons, List.length_nil] at *; omega, fun k x h => by have := (List.getElem?_eq_some_iff.mp h).1; simp only [List.length_cons, List.length_nil] at this; rw [show k = 0 by omega] at h; cases h; exact hq⟩
  have hP := old_P hP0 hS
  have hci : ct (fun k => zz U Z nc k) i ≤ i := ct_le _ i
  refine lv_iload_n hx hb dX1_explanations_6 rfl (lv_at hl 0 rfl) ?_
  refine lv_aload_n hx hb dX1_explanations_7 rfl (lv_at hl 2 rfl) ?_
  refine pcV_i (As := []) (rest := [.int (nI i)]) ⟨hx, hb, hml, hown, hts⟩ (g_S_sets l hP htc hnc hac) (cwV 0 hts gX1_explanations_X1_sets rfl rfl rfl hdX1_sets ⟨Nat.le_of_ble_eq_true rfl, Nat.le_of_ble_eq_true rfl⟩) (va_recv hK hP (ci := 1) (q0 := 0) rfl rfl) hK rfl hl.1 (Nat.le_of_ble_eq_true rfl) rfl dX1_explanations_8 ⟨by show 1 + i ≤ 257; omega, by show 256 * i ≤ 65536; omega⟩ ?_
  refine lv_icmp_ge (tgt := 69) hx hb dX1_explanations_11 (by decide) (fun c11 => ?_) (fun c11 => ?_)
  · have hie : i = pw tc := gd_ge_t (by omega) hi c11
    rw [hie] at hPq
    refine lv_aload_n hx hb dX1_explanations_69 rfl (lv_at hl 1 rfl) ?_
    refine W.widen (k := 257) (n := 65536) (by omega) (by omega) ?_
    exact W.aret hx hb hr (Or.inr ⟨_, rfl⟩) (Or.inr ⟨_, rfl⟩) (fun t9 ht9 hW9 => ⟨⟨(), q, rfl, trivial, hq, by rw [ht9]; exact hPq⟩, hS.F ht9⟩) hS.2.2 dX1_explanations_70
  · have hlt : i < pw tc := gd_ge_f hi c11
    refine lv_aload_n hx hb dX1_explanations_14 rfl (lv_at hl 2 rfl) ?_
    refine lv_iload_n hx hb dX1_explanations_15 rfl (lv_at hl 0 rfl) ?_
    refine pcV_i (As := [.int (nI i)]) (rest := []) ⟨hx, hb, hml, hown, hts⟩ (g_S_unexplained l hP htc hnc hac hU (v := (nI i)) (⟨i, hlt, rfl⟩)) (cwV 1 hts gX1_explanations_X1_unexplained rfl rfl rfl hdX1_unexplained ⟨Nat.le_of_ble_eq_true rfl, Nat.le_of_ble_eq_true rfl⟩) (va_recv hK hP (ci := 1) (q0 := 0) rfl rfl) hK rfl hl.1 (Nat.le_of_ble_eq_true rfl) rfl dX1_explanations_16 ⟨by show 1 + i ≤ 257; omega, by show 256 * i ≤ 65536; omega⟩ ?_
    have hun := un_le U Z (nI i) nc
    refine lv_if_le (tgt := 25) hx hb dX1_explanations_19 (by decide) (fun c19 => ?_) (fun c19 => ?_)
    · have hz : zz U Z nc i = true := zz_t (le0_eq (by omega) c19)
      refine lv_aload_n hx hb dX1_explanations_25 rfl (lv_at hl 1 rfl) ?_
      refine va_alen (v := nI (ct (fun k => zz U Z nc k) i)) hx hb hK hPq 0 0 rfl rfl rfl dX1_explanations_26 ?_
      refine lv_iconst (v := 1) hx hb dX1_explanations_27 (by decide) ?_
      refine lv_iadd hx hb dX1_explanations_28 ?_
      refine lv_cst (y := nI (ct (fun k => zz U Z nc k) i + 1)) (nI_1 _) ?_
      refine va_newa (atype := .int) (ty := .int) (N' := ct (fun k => zz U Z nc k) i + 1) (a0 := (ct (fun k => zz U Z nc k) i + 1, .inl (fun _ => 0))) hx hb (hts (.arrayClass .int) (List.mem_of_getElem? (i := 1) rfl)) rfl hK hPq hDq hS hA (fun _ => rfl) (nI_pos (by omega)) (nI_clamp (by omega)) (by show (ct (fun k => zz U Z nc k) i + 1) * 4 ≤ 536870912; omega) (by show 1 + i + 1 ≤ 257; omega) (by show 256 * i + (ct (fun k => zz U Z nc k) i + 1) ≤ 65536; omega) dX1_explanations_29 (fun q3 k3 H hK3 hP2 hD2 hS => ?_)
      have e3 : cI = k3 := ty_uniq hK3 (i := 0) (j := 2) rfl rfl
      subst e3
      have hq3 : s.heap.size ≤ q3 := hD2.2 1 _ rfl
      have hP2 : va_P D vwCl [(q, .inl (cI, ct (fun k => zz U Z nc k) i, .inl (fun j => nI (el (fun k => zz U Z nc k) i j)))), (q3, .inl (cI, ct (fun k => zz U Z nc k) i + 1, .inl (fun _ => 0)))] H := hP2
      have hD2 : va_D (fun z : Nat => s.heap.size ≤ z) [(q, .inl (cI, ct (fun k => zz U Z nc k) i, .inl (fun j => nI (el (fun k => zz U Z nc k) i j)))), (q3, .inl (cI, ct (fun k => zz U Z nc k) i + 1, .inl (fun _ => 0)))] := hD2
      refine lv_astore_n (lv' := [(3, .ref q3), (2, .int (nI i)), (1, .ref q), (0, .ref (r 0))]) hx hb dX1_explanations_31 rfl hl (by decide) rfl (fun ls hl => ?_)
      refine lv_iconst (v := 0) hx hb dX1_explanations_32 (by decide) ?_
      refine lv_istore (lv' := [(4, .int 0), (3, .ref q3), (2, .int (nI i)), (1, .ref q), (0, .ref (r 0))]) hx hb dX1_explanations_33 hl (by decide) rfl (fun ls hl => ?_)
      refine w_loopH (N := ct (fun k => zz U Z nc k) i) (T := fun jj => [(4, .int (nI jj)), (3, .ref q3), (2, .int (nI i)), (1, .ref q), (0, .ref (r 0))]) (w := fun jj => [(q, .inl (cI, ct (fun k => zz U Z nc k) i, .inl (fun j => nI (el (fun k => zz U Z nc k) i j)))), (q3, .inl (cI, ct (fun k => zz U Z nc k) i + 1, .inl (mrg (fun j => nI (el (fun k => zz U Z nc k) i j)) (fun _ => 0) jj)))]) 0 (Nat.zero_le _) (lv_sub hl [0, 1, 2, 3, 4] rfl) (D := D) (cl := vwCl) hP2 hS (fun jj ls H locs hi9 hi09 hl hP2 hS ih9 => ?_)
      have hP2 : va_P D vwCl [(q, .inl (cI, ct (fun k => zz U Z nc k) i, .inl (fun j => nI (el (fun k => zz U Z nc k) i j)))), (q3, .inl (cI, ct (fun k => zz U Z nc k) i + 1, .inl (mrg (fun j => nI (el (fun k => zz U Z nc k) i j)) (fun _ => 0) jj)))] H := hP2
      have hD2 : va_D (fun z : Nat => s.heap.size ≤ z) [(q, .inl (cI, ct (fun k => zz U Z nc k) i, .inl (fun j => nI (el (fun k => zz U Z nc k) i j)))), (q3, .inl (cI, ct (fun k => zz U Z nc k) i + 1, .inl (mrg (fun j => nI (el (fun k => zz U Z nc k) i j)) (fun _ => 0) jj)))] := va_D_re hD2 rfl
      have hl : lv_has ls 5 [(4, .int (nI jj)), (3, .ref q3), (2, .int (nI i)), (1, .ref q), (0, .ref (r 0))] := hl
      refine lv_iload hx hb dX1_explanations_35 (lv_at hl 0 rfl) ?_
      refine lv_aload_n hx hb dX1_explanations_37 rfl (lv_at hl 3 rfl) ?_
      refine va_alen (v := nI (ct (fun k => zz U Z nc k) i)) hx hb hK hP2 0 0 rfl rfl rfl dX1_explanations_38 ?_
      refine lv_icmp_ge (tgt := 56) hx hb dX1_explanations_39 (by decide) (fun c39 => ?_) (fun c39 => ?_)
      · have hie9 : jj = ct (fun k => zz U Z nc k) i := gd_ge_t (by omega) hi9 c39
        rw [hie9] at hl hP2 hD2
        refine lv_aload_n hx hb dX1_explanations_56 rfl (lv_at hl 1 rfl) ?_
        refine lv_aload_n hx hb dX1_explanations_57 rfl (lv_at hl 3 rfl) ?_
        refine va_alen (v := nI (ct (fun k => zz U Z nc k) i)) hx hb hK hP2 0 0 rfl rfl rfl dX1_explanations_58 ?_
        refine lv_iload_n hx hb dX1_explanations_59 rfl (lv_at hl 2 rfl) ?_
        refine ia_st hx hb hK hP2 hD2 hS 1 0 rfl rfl (j := ct (fun k => zz U Z nc k) i) (by omega) (by omega) dX1_explanations_60 (fun H locs hP2 hS => ?_)
        have hP2 : va_P D vwCl [(q, .inl (cI, ct (fun k => zz U Z nc k) i, .inl (fun j => nI (el (fun k => zz U Z nc k) i j)))), (q3, .inl (cI, ct (fun k => zz U Z nc k) i + 1, .inl (upd (mrg (fun j => nI (el (fun k => zz U Z nc k) i j)) (fun _ => 0) (ct (fun k => zz U Z nc k) i)) (ct (fun k => zz U Z nc k) i) (nI i))))] H := hP2
        refine lv_aload_n hx hb dX1_explanations_61 rfl (lv_at hl 1 rfl) ?_
        refine lv_astore_n (lv' := [(1, .ref q3), (4, .int (nI (ct (fun k => zz U Z nc k) i))), (3, .ref q3), (2, .int (nI i)), (0, .ref (r 0))]) hx hb dX1_explanations_62 rfl hl (by decide) rfl (fun ls hl => ?_)
        refine lv_iinc (v := nI (i + 1)) (lv' := [(2, .int (nI (i + 1))), (1, .ref q3), (4, .int (nI (ct (fun k => zz U Z nc k) i))), (3, .ref q3), (0, .ref (r 0))]) hx hb dX1_explanations_63 hl (k := 3) rfl (nI_1 _) (by decide) rfl (fun ls hl => ?_)
        refine lv_goto (tgt := 6) hx hb dX1_explanations_66 (by decide) ?_
        have hl := lv_sub (l' := [(2, .int (nI (i + 1))), (1, .ref q3), (0, .ref (r 0))]) hl [0, 1, 4] rfl
        refine W.widen (k := 1 + (i + 1)) (n := 256 * (i + 1)) (by omega) (by omega) ?_
        refine ih ls _ _ hlt ⟨q3, hq3, hl, ?_, hS⟩
        have e1 : ct (fun k => zz U Z nc k) (i + 1) = ct (fun k => zz U Z nc k) i + 1 := by rw [ct_s, if_pos hz]
        rw [e1]
        exact va_P_arr (hP2.sub [1] rfl) 0 rfl (fun j hj => ex_end (p := (fun k => zz U Z nc k)) hz hj)
      · have hlt9 : jj < ct (fun k => zz U Z nc k) i := gd_ge_f hi9 c39
        refine lv_aload_n hx hb dX1_explanations_42 rfl (lv_at hl 1 rfl) ?_
        refine lv_iload hx hb dX1_explanations_43 (lv_at hl 0 rfl) ?_
        refine lv_aload_n hx hb dX1_explanations_45 rfl (lv_at hl 3 rfl) ?_
        refine lv_iload hx hb dX1_explanations_46 (lv_at hl 0 rfl) ?_
        refine ia_ld hx hb hK hP2 0 0 rfl rfl (j := jj) (hlt9) (by omega) dX1_explanations_48 ?_
        refine ia_st hx hb hK hP2 hD2 hS 1 0 rfl rfl (j := jj) (by omega) (by omega) dX1_explanations_49 (fun H locs hP2 hS => ?_)
        have hP2 : va_P D vwCl [(q, .inl (cI, ct (fun k => zz U Z nc k) i, .inl (fun j => nI (el (fun k => zz U Z nc k) i j)))), (q3, .inl (cI, ct (fun k => zz U Z nc k) i + 1, .inl (upd (mrg (fun j => nI (el (fun k => zz U Z nc k) i j)) (fun _ => 0) jj) jj (nI (el (fun k => zz U Z nc k) i jj)))))] H := hP2
        refine lv_iinc (v := nI (jj + 1)) (lv' := [(4, .int (nI (jj + 1))), (3, .ref q3), (2, .int (nI i)), (1, .ref q), (0, .ref (r 0))]) hx hb dX1_explanations_50 hl (k := 0) rfl (nI_1 _) (by decide) rfl (fun ls hl => ?_)
        refine lv_goto (tgt := 35) hx hb dX1_explanations_53 (by decide) ?_
        have hl := lv_sub (l' := [(4, .int (nI (jj + 1))), (3, .ref q3), (2, .int (nI i)), (1, .ref q), (0, .ref (r 0))]) hl [0, 1, 2, 3, 4] rfl
        rw [mrg_s (fun j => nI (el (fun k => zz U Z nc k) i j)) (fun _ => 0) jj rfl] at hP2
        exact ih9 ls _ _ hlt9 hl hP2 hS
    · have hz : zz U Z nc i = false := zz_f (fun w => c19 (by rw [w]; decide))
      refine lv_goto (tgt := 63) hx hb dX1_explanations_22 (by decide) ?_
      refine lv_iinc (v := nI (i + 1)) (lv' := [(2, .int (nI (i + 1))), (1, .ref q), (0, .ref (r 0))]) hx hb dX1_explanations_63 hl (k := 0) rfl (nI_1 _) (by decide) rfl (fun ls hl => ?_)
      refine lv_goto (tgt := 6) hx hb dX1_explanations_66 (by decide) ?_
      have hl := lv_sub (l' := [(2, .int (nI (i + 1))), (1, .ref q), (0, .ref (r 0))]) hl [0, 1, 2] rfl
      refine W.widen (k := 1 + (i + 1)) (n := 256 * (i + 1)) (by omega) (by omega) ?_
      refine ih ls _ _ hlt ⟨q, hq, hl, ?_, hS⟩
      have e1 : ct (fun k => zz U Z nc k) (i + 1) = ct (fun k => zz U Z nc k) i := by rw [ct_s, if_neg (by rw [hz]; decide)]; rfl
      rw [e1]
      exact va_P_arr hPq 0 rfl (fun j hj => congrArg nI (el_f (p := (fun k => zz U Z nc k)) hz j).symm)
set_option maxHeartbeats 4000000 in
set_option maxRecDepth 100000 in
theorem w_S_init (l : Launch) {D : va_G} {cI cR : ClassId} {h0 : Nat} {H : Heap} (hP : va_P D vwCl [(h0, .inr (1, [.int 0, .null, .null, .int 0]))] H) (hD0 : va_D (fun _ => True) [(h0, .inr (1, [.int 0, .null, .null, .int 0]))]) : Met l yX1_init wsX1_init ({ frames := 1, cells := 2, slots := 0, locals := 20 }) (va_Pc [.ref h0] (rdo D vwCl (tyS cI cR) H)) (va_Qv (fun _ : Unit => True) (fun _ t => ∃ q1 q2, va_P D vwCl (wS cI cR (rr (rr (fun _ => h0) 1 q1) 2 q2) (fun _ => 0) (fun _ => 0) 0 0 0 0 (fun _ => 0) (fun _ => false) (fun _ => 0) (fun _ => 0) (fun _ => 0)) t.heap ∧ va_D (va_A [(h0, .inr (1, [.int 0, .null, .null, .int 0]))] H.size) (wS cI cR (rr (rr (fun _ => h0) 1 q1) 2 q2) (fun _ => 0) (fun _ => 0) 0 0 0 0 (fun _ => 0) (fun _ => false) (fun _ => 0) (fun _ => 0) (fun _ => 0))) (va_A [(h0, .inr (1, [.int 0, .null, .null, .int 0]))] H.size)) 2 0 (va_A [(h0, .inr (1, [.int 0, .null, .null, .int 0]))] H.size) := by
  refine Met.ofW (cc := cX1_init) (maxL := 1) (ret := none) (by decide) rfl ?_
  intro p e s m args below meth c s₁ B9 hml hv
  obtain ⟨rfl, hH, hK, hov⟩ := hv
  subst hH
  have hx := B9.exec
  have hb := B9.bytes
  have hr := B9.returns
  have hts := atoms_spec (ws := wsX1_init) B9.pre
  have hown : s.vm.findClass RX1 = some m.cls := findClass_of_methodNamed B9.named
  have hlocks := B9.notSynchronized
  have hin : ∀ w ∈ u_ws RX1 TX1 4, w ∈ wsX1_init := fun w h => List.mem_cons_of_mem _ (List.mem_append_right _ h)
  have hl := lv_entry ([.ref h0]) (n := 1) (Nat.le_of_ble_eq_true rfl)
  rw [lg_entry_eq]
  generalize (lg_sl ([.ref h0]) ++ List.replicate (1 - (lg_sl ([.ref h0])).length) Slot.unset).toArray = ls at hl ⊢
  have hl : lv_has ls 1 [(0, .ref h0)] := hl
  have hD := hD0.self (sz := s.heap.size)
  generalize hAe : va_A [(h0, .inr (1, [.int 0, .null, .null, .int 0]))] s.heap.size = A at hD ⊢
  have hA : ∀ q : Nat, s.heap.size ≤ q → A q := fun q h => by rw [← hAe]; exact Or.inr h
  have hS : va_S A s.heap s.heap [] := va_S.rf
  refine lv_aload_n hx hb dX1_init_0 rfl (lv_at hl 0 rfl) ?_
  refine W.objInit hx hb hown (hts (.methodLink RX1 1 objectInit) (List.mem_of_getElem? (i := 1) rfl)) (hts (.instanceMethod objectInit) (List.mem_of_getElem? (i := 2) rfl)) (hts (.code objectInit ⟨#[0xb1]⟩ 1 none) (List.mem_of_getElem? (i := 3) rfl)) rfl (by rw [hml]; exact hl.1) rfl dX1_init_1 (Nat.le_of_ble_eq_true rfl) (Nat.le_of_ble_eq_true rfl) ?_
  refine W.eq (g2 := F0 m 4 ls []) rfl ?_
  refine lv_aload_n hx hb dX1_init_4 rfl (lv_at hl 0 rfl) ?_
  refine lv_iconst (v := 0) hx hb dX1_init_5 (by decide) ?_
  refine ra_new hx hb hown (hts (.classLink RX1 7 "[I") (List.mem_of_getElem? (i := 4) rfl)) hov hK hP hD hS hA 1 rfl (n := 0) nI_0.symm (by decide) (Nat.le_of_ble_eq_true rfl) (Nat.le_of_ble_eq_true rfl) dX1_init_6 (fun q1 H hq1 hP hD hS hold1 => ?_)
  have hP : va_P D vwCl [(h0, .inr (1, [.int 0, .null, .null, .int 0])), (q1, .inl (cR, 0, rq (fun _ => none)))] H := hP
  have hD : va_D A [(h0, .inr (1, [.int 0, .null, .null, .int 0])), (q1, .inl (cR, 0, rq (fun _ => none)))] := hD
  refine va_put (D := D) (ci := 1) (v := .ref q1) (ty := .array (.array .int)) (C := RX1) (T := TX1) (N := 4) hx hb hts hin tyX1 tyX1_ok nmX1 hown hK hP hD hS 0 rfl rfl 1 (by decide) (hts (.fieldLink RX1 9 "SmudgedStarLaw$Sim" "nights" "[[I") (List.mem_of_getElem? (i := 5) rfl)) (fun _ h9 => h9) rfl (by decide +kernel) rfl rfl (Nat.le_of_ble_eq_true rfl) dX1_init_9 (fun H locs hP hD hS => ?_)
  have hP : va_P D vwCl [(h0, .inr (1, [.int 0, .ref q1, .null, .int 0])), (q1, .inl (cR, 0, rq (fun _ => none)))] H := hP
  have hD : va_D A [(h0, .inr (1, [.int 0, .ref q1, .null, .int 0])), (q1, .inl (cR, 0, rq (fun _ => none)))] := hD
  refine lv_aload_n hx hb dX1_init_12 rfl (lv_at hl 0 rfl) ?_
  refine lv_iconst (v := 0) hx hb dX1_init_13 (by decide) ?_
  refine ra_new hx hb hown (hts (.classLink RX1 7 "[I") (List.mem_of_getElem? (i := 4) rfl)) hov hK hP hD hS hA 1 rfl (n := 0) nI_0.symm (by decide) (Nat.le_of_ble_eq_true rfl) (Nat.le_of_ble_eq_true rfl) dX1_init_14 (fun q2 H hq2 hP hD hS hold2 => ?_)
  have hP : va_P D vwCl [(h0, .inr (1, [.int 0, .ref q1, .null, .int 0])), (q1, .inl (cR, 0, rq (fun _ => none))), (q2, .inl (cR, 0, rq (fun _ => none)))] H := hP
  have hD : va_D A [(h0, .inr (1, [.int 0, .ref q1, .null, .int 0])), (q1, .inl (cR, 0, rq (fun _ => none))), (q2, .inl (cR, 0, rq (fun _ => none)))] := hD
  refine va_put (D := D) (ci := 1) (v := .ref q2) (ty := .array (.array .int)) (C := RX1) (T := TX1) (N := 4) hx hb hts hin tyX1 tyX1_ok nmX1 hown hK hP hD hS 0 rfl rfl 2 (by decide) (hts (.fieldLink RX1 15 "SmudgedStarLaw$Sim" "astronomers" "[[I") (List.mem_of_getElem? (i := 6) rfl)) (fun _ h9 => h9) rfl (by decide +kernel) rfl rfl (Nat.le_of_ble_eq_true rfl) dX1_init_17 (fun H locs hP hD hS => ?_)
  have hP : va_P D vwCl [(h0, .inr (1, [.int 0, .ref q1, .ref q2, .int 0])), (q1, .inl (cR, 0, rq (fun _ => none))), (q2, .inl (cR, 0, rq (fun _ => none)))] H := hP
  have hD : va_D A [(h0, .inr (1, [.int 0, .ref q1, .ref q2, .int 0])), (q1, .inl (cR, 0, rq (fun _ => none))), (q2, .inl (cR, 0, rq (fun _ => none)))] := hD
  have hP : va_P D vwCl [(h0, .inr (1, [.int 0, .ref q1, .ref q2, .int 0])), (q1, .inl (cR, 0, rq (fun _ => some 0))), (q2, .inl (cR, 0, rq (fun _ => some 0)))] H := va_P_refs (va_P_refs hP 1 rfl (g := fun _ => some 0) (fun j hj => absurd hj (Nat.not_lt_zero j))) 2 rfl (g := fun _ => some 0) (fun j hj => absurd hj (Nat.not_lt_zero j))
  have hP : va_P D vwCl (wS cI cR (rr (rr (fun _ => h0) 1 q1) 2 q2) (fun _ => 0) (fun _ => 0) 0 0 0 0 (fun _ => 0) (fun _ => false) (fun _ => 0) (fun _ => 0) (fun _ => 0)) H := hP
  have hD : va_D A (wS cI cR (rr (rr (fun _ => h0) 1 q1) 2 q2) (fun _ => 0) (fun _ => 0) 0 0 0 0 (fun _ => 0) (fun _ => false) (fun _ => 0) (fun _ => 0) (fun _ => 0)) := va_D_re hD rfl
  exact W.vret hx hb hr (fun t9 ht9 hW9 => ⟨⟨(), rfl, trivial, q1, q2, by rw [ht9]; exact hP, hD⟩, hS.F ht9⟩) hS.2.2 dX1_init_20
