/-! the law: a round, and eight -/
theorem XS.weaken {D : va_G} {cI cZ cR : ClassId} {q : Nat → Nat} {r0 : Nat} {A A' : Nat → Prop} {H : Heap} (h : XS D cI cZ cR q r0 A H) (hA : ∀ z, A z → A' z) : XS D cI cZ cR q r0 A' H := by
  obtain ⟨tc, nc, ac, ch, U, Z, B, L, F, r, nr, ar, h1, h2, h3, h4⟩ := h
  exact ⟨tc, nc, ac, ch, U, Z, B, L, F, r, nr, ar, h1, h2, h3, h4.weaken (fun _ _ _ h => hA _ h)⟩
set_option maxHeartbeats 8000000 in
set_option maxRecDepth 100000 in
theorem law_rd (l : Launch) {p : Program} {e : Env} {s : State} {m : MethodId} {below : List Frame} {meth : Method} {c : Code} {b N : Nat} {xs : Nat → Int32} {D : va_G} {cI cZ cR : ClassId} {q : Nat → Nat} {Q : State → Prop} {H : Heap} {locs : List Loc} {ls : Array Slot} {cells slots i : Nat}  {r0 : Nat} (C : LC l p s m c b N xs D cI cZ cR) (hXS : XS D cI cZ cR q r0 (lA s) H) (hS : va_S (lA s) s.heap H locs) (hl : lv_has ls 28 [(3, .int (nI i)), (2, .ref r0), (1, .ref (q 0)), (0, .ref b)]) (hi : i ≤ 8) (hcl : cells + 4000 ≤ 600172) (hsl : slots + 600000 ≤ 7300668) (kend : i = 8 → W p l e room_1 s m #[Value.ref b] below meth c H locs cells slots Q (F0 m 1189 ls [])) (knext : i < 8 → ∀ (H : Heap) (locs : List Loc) (ls : Array Slot), XS D cI cZ cR q r0 (lA s) H → va_S (lA s) s.heap H locs → lv_has ls 28 [(3, .int (nI (i + 1))), (2, .ref r0), (1, .ref (q 0)), (0, .ref b)] → W p l e room_1 s m #[Value.ref b] below meth c H locs (cells + 1900) (slots + 290000) Q (F0 m 22 ls [])) : W p l e room_1 s m #[Value.ref b] below meth c H locs cells slots Q (F0 m 22 ls []) := by
  obtain ⟨hx, hb, hml, hown, hts, hX, hbl, hN, hKL, hov, hnst⟩ := id C
  have hA : ∀ z : Nat, s.heap.size ≤ z → lA s z := fun _ h => h
  refine lv_iload_n hx hb dL_law_22 rfl (lv_at hl 0 rfl) ?_
  refine lv_bipush (v := 8) hx hb dL_law_23 (by decide) ?_
  refine lv_icmp_ge (tgt := 1189) hx hb dL_law_25 (by decide) (fun c25 => ?_) (fun c25 => ?_)
  · exact kend (gd_ge_t (N := 8) (by omega) hi c25)
  · have hlt : i < 8 := gd_ge_f (N := 8) hi c25
    refine lv_aload_n hx hb dL_law_28 rfl (lv_at hl 3 rfl) ?_
    refine lv_iload_n hx hb dL_law_29 rfl (lv_at hl 0 rfl) ?_
    refine lv_iconst (v := 1) hx hb dL_law_30 (by decide) ?_
    refine lv_iadd hx hb dL_law_31 ?_
    refine lv_cst (y := nI (i + 1)) (nI_1 i) ?_
    have hXc : va_X b N xs s H := hX.kept (hS.2.1 b hbl (Nat.not_le.mpr hbl))
    have hbH : b < H.size := Nat.lt_of_lt_of_le hbl hS.1
    refine pcX_i (As := [.ref b, .int (nI (i + 1))]) (rest := []) ⟨hx, hb, hml, hown, hts⟩ (g_L_cell l hN (by omega) hbH) (va_cwS 2 hts gL_law_L_cell rfl rfl rfl hdL_cell ⟨Nat.le_of_ble_eq_true rfl, Nat.le_of_ble_eq_true rfl⟩) hXc rfl hl.1 (Nat.le_of_ble_eq_true rfl) rfl dL_law_32 ⟨by show cells ≤ 600172; omega, by show slots ≤ 7300668; omega⟩ ?_
    refine lv_iconst (v := 2) hx hb dL_law_35 (by decide) ?_
    refine lv_ishr hx hb dL_law_36 ?_
    refine lv_bipush (v := 53) hx hb dL_law_37 (by decide) ?_
    refine lv_iload_n hx hb dL_law_39 rfl (lv_at hl 0 rfl) ?_
    refine lv_imul hx hb dL_law_40 ?_
    refine lv_iadd hx hb dL_law_41 ?_
    refine lv_fork (fun x : Int32 => F0 m 42 ls [.int x]) (fun x => ?_) (fun K => K _)
    refine lv_istore (lv' := [(4, .int x), (3, .int (nI i)), (2, .ref r0), (1, .ref (q 0)), (0, .ref b)]) hx hb dL_law_42 hl (by decide) rfl (fun ls hl => ?_)
    refine lv_iconst (v := 0) hx hb dL_law_44 (by decide) ?_
    refine lv_istore (lv' := [(5, .int 0), (4, .int x), (3, .int (nI i)), (2, .ref r0), (1, .ref (q 0)), (0, .ref b)]) hx hb dL_law_45 hl (by decide) rfl (fun ls hl => ?_)
    refine W.widen (k := cells + 400 * 0) (n := slots + 70000 * 0) (by omega) (by omega) ?_
    refine w_loopG (N := 3) (I := fun j9 ls H locs => lv_has ls 28 [(5, .int (nI j9)), (4, .int x), (3, .int (nI i)), (2, .ref r0), (1, .ref (q 0)), (0, .ref b)] ∧ XS D cI cZ cR q r0 (lA s) H ∧ va_S (lA s) s.heap H locs) (cf := fun j9 => cells + 400 * j9) (sf := fun j9 => slots + 70000 * j9) 0 (Nat.zero_le _) ⟨lv_sub hl [0, 1, 2, 3, 4, 5] rfl, hXS, hS⟩ (fun j9 ls H locs hi9 hi0 hI ih => ?_)
    obtain ⟨hl, hXS, hS⟩ := hI
    refine lv_iload hx hb dL_law_47 (lv_at hl 0 rfl) ?_
    refine lv_iconst (v := 3) hx hb dL_law_49 (by decide) ?_
    refine lv_icmp_ge (tgt := 82) hx hb dL_law_50 (by decide) (fun c50 => ?_) (fun c50 => ?_)
    · have hie : j9 = 3 := gd_ge_t (N := 3) (by omega) hi9 c50
      subst hie
      obtain ⟨tc, nc, ac, ch, U, Z, B, L, F, r, nr, ar, hr0, hG, hP, hD⟩ := hXS
      subst hr0
      refine sg_2 l (cE := cells + 1900) (sE := slots + 290000) (i := i) (x := x) C hG hS hP hD (lv_sub hl [1, 2, 3, 4, 5] rfl) (by omega) (by omega) (by omega) (by omega) (fun H locs ls hXS hS hl => ?_)
      refine lv_iinc (v := nI (i + 1)) (lv' := [(3, .int (nI (i + 1))), (2, .ref (r 0)), (1, .ref (q 0)), (0, .ref b)]) hx hb dL_law_1183 hl (k := 0) rfl (nI_1 i) (by decide) rfl (fun ls hl => ?_)
      refine lv_goto (tgt := 22) hx hb dL_law_1186 (by decide) ?_
      exact knext hlt _ _ _ hXS hS hl
    · have hlt9 : j9 < 3 := gd_ge_f (N := 3) hi9 c50
      refine lv_aload_n hx hb dL_law_53 rfl (lv_at hl 4 rfl) ?_
      refine lv_aload_n hx hb dL_law_54 rfl (lv_at hl 3 rfl) ?_
      refine lv_iload hx hb dL_law_55 (lv_at hl 1 rfl) ?_
      refine lv_iconst (v := 3) hx hb dL_law_57 (by decide) ?_
      refine lv_iload hx hb dL_law_58 (lv_at hl 0 rfl) ?_
      refine lv_imul hx hb dL_law_60 ?_
      refine lv_ishr hx hb dL_law_61 ?_
      refine lv_bipush (v := 29) hx hb dL_law_62 (by decide) ?_
      refine lv_iload hx hb dL_law_64 (lv_at hl 0 rfl) ?_
      refine lv_imul hx hb dL_law_66 ?_
      refine lv_iadd hx hb dL_law_67 ?_
      obtain ⟨tc, nc, ac, ch, U, Z, B, L, F, r, nr, ar, hr0, hG, hP, hD⟩ := hXS
      subst hr0
      have hFr := va_free_all hD hS hA
      refine va_calli (va_runS (As := [.ref (q 0), .ref (r 0), .int ((x >>> ((3 * (nI j9)) &&& 31)) + (29 * (nI j9)))]) (rest := []) ⟨hx, hb, hml, hown, hts⟩ (w_L_act l hP (hD.weaken (fun _ _ _ _ => trivial)) hG) (va_cwS 3 hts gL_law_L_act rfl rfl rfl hdL_act ⟨Nat.le_of_ble_eq_true rfl, Nat.le_of_ble_eq_true rfl⟩) ⟨rdo_blind, rdo_pre hKL hov⟩ rfl rfl hl.1 rfl (lv_room (Nat.le_of_ble_eq_true rfl)) dL_law_68 ⟨by show cells + 400 * j9 + 400 ≤ 600172; omega, by show slots + 70000 * j9 + 70000 ≤ 7300668; omega⟩) hS (fun z _ h => hFr z h) hFr (fun r9 u t9 H1 locs ht9 hvm9 hw9 hB9 hz1 hk1 hS => ?_)
      subst hw9
      rw [ht9] at hB9
      have hXS := XS.weaken hB9 hFr
      clear hB9 hFr hk1 hz1 hP hD
      generalize H1 = H at hXS hS ⊢
      generalize r 0 = r0 at hXS hl ih knext ⊢
      refine lv_if_ne (tgt := 76) hx hb dL_law_71 (by decide) (fun c71 => ?_) (fun c71 => absurd c71 (by decide))
      refine lv_iinc (v := nI (j9 + 1)) (lv' := [(5, .int (nI (j9 + 1))), (4, .int x), (3, .int (nI i)), (2, .ref r0), (1, .ref (q 0)), (0, .ref b)]) hx hb dL_law_76 hl (k := 0) rfl (nI_1 _) (by decide) rfl (fun ls hl => ?_)
      refine lv_goto (tgt := 47) hx hb dL_law_79 (by decide) ?_
      have hl := lv_sub (l' := [(5, .int (nI (j9 + 1))), (4, .int x), (3, .int (nI i)), (2, .ref r0), (1, .ref (q 0)), (0, .ref b)]) hl [0, 1, 2, 3, 4, 5] rfl
      refine W.widen (k := cells + 400 * (j9 + 1)) (n := slots + 70000 * (j9 + 1)) (by omega) (by omega) ?_
      exact ih _ _ _ hlt9 ⟨hl, hXS, hS⟩
theorem lr_st {a b c n : Nat} (h : a + b * (n + 1) ≤ c) : a + b + b * n ≤ c := by
  rw [Nat.mul_succ] at h; omega
theorem lr_le {a b c d e : Nat} (h : a + b ≤ c) (hd : c + d ≤ e) : a + d ≤ e := by omega
set_option maxHeartbeats 8000000 in
set_option maxRecDepth 100000 in
theorem law_loop (l : Launch) {p : Program} {e : Env} {s : State} {m : MethodId} {below : List Frame} {meth : Method} {c : Code} {b N : Nat} {xs : Nat → Int32} {D : va_G} {cI cZ cR : ClassId} {q : Nat → Nat} {Q : State → Prop}  {r0 : Nat} (C : LC l p s m c b N xs D cI cZ cR) (kend : ∀ (cells slots : Nat) (H : Heap) (locs : List Loc) (ls : Array Slot), cells ≤ 40000 → slots ≤ 4000000 → XS D cI cZ cR q r0 (lA s) H → va_S (lA s) s.heap H locs → lv_has ls 28 [(3, .int (nI 8)), (2, .ref r0), (1, .ref (q 0)), (0, .ref b)] → W p l e room_1 s m #[Value.ref b] below meth c H locs cells slots Q (F0 m 1189 ls [])) :
    ∀ (n i cells slots : Nat) (H : Heap) (locs : List Loc) (ls : Array Slot), i + n = 8 → cells + 1900 * n ≤ 40000 → slots + 290000 * n ≤ 4000000 → XS D cI cZ cR q r0 (lA s) H → va_S (lA s) s.heap H locs → lv_has ls 28 [(3, .int (nI i)), (2, .ref r0), (1, .ref (q 0)), (0, .ref b)] → W p l e room_1 s m #[Value.ref b] below meth c H locs cells slots Q (F0 m 22 ls []) := by
  intro n
  induction n with
  | zero =>
    intro i cells slots H locs ls h1 h2 h3 h4 h5 h6
    have h8 : i = 8 := by omega
    subst h8
    exact law_rd l C h4 h5 h6 (Nat.le_refl _) (lr_le h2 (by decide)) (lr_le h3 (by decide)) (fun _ => kend cells slots H locs ls (by omega) (by omega) h4 h5 h6) (fun hlt => absurd hlt (Nat.lt_irrefl _))
  | succ n ih =>
    intro i cells slots H locs ls h1 h2 h3 h4 h5 h6
    exact law_rd l C h4 h5 h6 (by omega) (lr_le h2 (by decide)) (lr_le h3 (by decide)) (fun h => absurd h (by omega)) (fun hlt H locs ls a b d => ih (i + 1) (cells + 1900) (slots + 290000) H locs ls (by omega) (lr_st h2) (lr_st h3) a b d)
