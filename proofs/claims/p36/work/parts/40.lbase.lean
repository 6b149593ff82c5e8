/-! ===== the law's ground: static calls of bodies with a table, worlds in two halves, the script, cases of an argument ===== -/
theorem met_ofWH {l : Launch} {y : MethodName} {ws ws' : List Cond} {rm : Room} {Pc : Array Value → State → Prop} {Qc : Array Value → State → Outcome → State → Prop} {mc ms : Nat} {free : Addr → Prop} {cc : ByteArray} {maxL : Nat} {ret : Option FieldType} {hh : List (Nat × Nat × Nat × Nat)}
    (hy : plainName y.cls = true) (hw : ws = Cond.codeWith y cc maxL ret hh :: ws')
    (body : ∀ p e s m args below meth c s₁, BodyLoose p l y (headSpec ws rm) cc maxL ret e s m args below meth c s₁ → c.maxLocals = maxL → Pc args s →
      W p l e (headSpec ws rm).room s m args below meth c s.heap [] 0 0 (MQ below Qc args s mc ms free) (entryFrame m args maxL)) : Met l y ws rm Pc Qc mc ms free := by
  refine MetFree.of_bodyS (code := cc) (maxLocals := maxL) (ret := ret) hy ?_ ?_
  · intro args s m h hn
    obtain ⟨m9, meth, c, hn9, h1, h2, h3, h4, -, h5, h6, -⟩ := Cond.codeWith_spec (atoms_spec (ws := ws) h _ (by rw [hw]; exact List.mem_cons_self))
    cases hn.symm.trans hn9
    exact ⟨meth, c, h1, h2, h3, h4, h5, h6⟩
  · intro p e s m args below meth c s₁ B hml hP _
    have hh0 : s₁.heap = s.heap := by rw [B.state]; rfl
    obtain ⟨t, a1, o, b1, b2, b3⟩ := body p e s m args below meth c s₁ B hml hP s₁ hh0 (Stand.of_body B)
    exact ⟨t, o, a1, b1, b2, ⟨b3.1, b3.2⟩⟩
section HALVES
variable {A : Nat → Prop} {D : va_G} {cl : List vw_C} {w wr wl w1 : va_W} {H0 H H1 : Heap} {locs : List Loc}
theorem P_l (hP : va_P D cl (w ++ wr) H) : va_P D cl w H := fun k q hq => hP k q (by rw [List.getElem?_append_left (List.getElem?_eq_some_iff.mp hq).1]; exact hq)
theorem P_r (hP : va_P D cl (wl ++ w) H) : va_P D cl w H := fun k q hq => hP (wl.length + k) q (by rw [List.getElem?_append_right (Nat.le_add_right _ _), Nat.add_sub_cancel_left]; exact hq)
theorem D_l (hD : va_D A (w ++ wr)) : va_D (fun _ => True) w := ⟨fun i j x y hi hj hxy => hD.1 i j x y (by rw [List.getElem?_append_left (List.getElem?_eq_some_iff.mp hi).1]; exact hi) (by rw [List.getElem?_append_left (List.getElem?_eq_some_iff.mp hj).1]; exact hj) hxy, fun _ _ _ => trivial⟩
theorem D_r (hD : va_D A (wl ++ w)) : va_D (fun _ => True) w := ⟨fun i j x y hi hj hxy => by
  have h := hD.1 (wl.length + i) (wl.length + j) x y (by rw [List.getElem?_append_right (Nat.le_add_right _ _), Nat.add_sub_cancel_left]; exact hi) (by rw [List.getElem?_append_right (Nat.le_add_right _ _), Nat.add_sub_cancel_left]; exact hj) hxy
  omega, fun _ _ _ => trivial⟩
theorem up_l (hP : va_P D cl (w ++ wr) H) (hD : va_D A (w ++ wr)) (hk : ∀ q : Nat, q < H.size → ¬ va_A w H.size q → H1[q]? = H[q]?) (h1 : va_P D cl w1 H1) : va_P D cl (w1 ++ wr) H1 := by
  refine h1.app (fun k q hq => ?_)
  have hi : (w ++ wr)[w.length + k]? = some q := by rw [List.getElem?_append_right (Nat.le_add_right _ _), Nat.add_sub_cancel_left]; exact hq
  have hat := hP _ _ hi
  refine hat.kept (hk q.1 hat.lt (fun h => ?_))
  rcases h with ⟨k2, e2, h2⟩ | h2
  · have hl := (List.getElem?_eq_some_iff.mp h2).1
    have h3 : (w ++ wr)[k2]? = some (q.1, e2) := by rw [List.getElem?_append_left hl]; exact h2
    have h4 := hD.1 _ _ _ _ hi h3 rfl
    omega
  · exact absurd hat.lt (Nat.not_lt.mpr h2)
theorem up_r (hP : va_P D cl (wl ++ w) H) (hD : va_D A (wl ++ w)) (hk : ∀ q : Nat, q < H.size → ¬ va_A w H.size q → H1[q]? = H[q]?) (h1 : va_P D cl w1 H1) : va_P D cl (wl ++ w1) H1 := by
  refine va_P.app (fun k q hq => ?_) h1
  have hlq := (List.getElem?_eq_some_iff.mp hq).1
  have hi : (wl ++ w)[k]? = some q := by rw [List.getElem?_append_left hlq]; exact hq
  have hat := hP _ _ hi
  refine hat.kept (hk q.1 hat.lt (fun h => ?_))
  rcases h with ⟨k2, e2, h2⟩ | h2
  · have h3 : (wl ++ w)[wl.length + k2]? = some (q.1, e2) := by rw [List.getElem?_append_right (Nat.le_add_right _ _), Nat.add_sub_cancel_left]; exact h2
    have h4 := hD.1 _ _ _ _ hi h3 rfl
    omega
  · exact absurd hat.lt (Nat.not_lt.mpr h2)
theorem fr_l (hD : va_D A (w ++ wr)) (hS : va_S A H0 H locs) (hA : ∀ q, H0.size ≤ q → A q) : ∀ q, va_A w H.size q → A q := by
  intro q h
  rcases h with ⟨k, e, h⟩ | h
  · exact hD.2 k (q, e) (by rw [List.getElem?_append_left (List.getElem?_eq_some_iff.mp h).1]; exact h)
  · exact hA q (Nat.le_trans hS.1 h)
theorem fr_r (hD : va_D A (wl ++ w)) (hS : va_S A H0 H locs) (hA : ∀ q, H0.size ≤ q → A q) : ∀ q, va_A w H.size q → A q := by
  intro q h
  rcases h with ⟨k, e, h⟩ | h
  · exact hD.2 (wl.length + k) (q, e) (by rw [List.getElem?_append_right (Nat.le_add_right _ _), Nat.add_sub_cancel_left]; exact h)
  · exact hA q (Nat.le_trans hS.1 h)
theorem grow_P (hP : va_P D cl w H) (hk : ∀ q : Nat, q < H.size → H1[q]? = H[q]?) : va_P D cl w H1 := hP.kept (fun k q hq => hk q.1 (hP k q hq).lt)
end HALVES
theorem ar_th (v : Int32) (n : Nat) : (v < 0 ∨ nI n ≤ v) ∨ ∃ t, t < n ∧ v = nI t := by
  by_cases h : v < 0
  · exact Or.inl (Or.inl h)
  · obtain ⟨j, hj, rfl⟩ := nI_of h
    by_cases h2 : j < n
    · exact Or.inr ⟨j, h2, rfl⟩
    · exact Or.inl (Or.inr (nI_le (by omega) hj))
theorem ar_set (v : Int32) {n : Nat} (hn : 1 ≤ n) : (v < 0 ∨ nI (n - 1) < v) ∨ ∃ k, k < n ∧ v = nI k := by
  by_cases h : v < 0
  · exact Or.inl (Or.inl h)
  · obtain ⟨j, hj, rfl⟩ := nI_of h
    by_cases h2 : j < n
    · exact Or.inr ⟨j, h2, rfl⟩
    · exact Or.inl (Or.inr (nI_lt (by omega) hj))
theorem ar_us (v : Int32) {n : Nat} (hn : 1 ≤ n) : (v < 1 ∨ nI (n - 1) < v) ∨ ∃ k, 1 ≤ k ∧ k < n ∧ v = nI k := by
  rcases ar_set v hn with (h | h) | ⟨k, h1, h2⟩
  · exact Or.inl (Or.inl (Int32.lt_trans h (by decide)))
  · exact Or.inl (Or.inr h)
  · by_cases h0 : k = 0
    · subst h0
      exact Or.inl (Or.inl (by rw [h2, nI_0]; decide))
    · exact Or.inr ⟨k, by omega, h1, h2⟩
theorem ar_st (v : Int32) : (v < 0 ∨ 5 < v) ∨ (¬ v < 0 ∧ v ≤ 5) := by
  by_cases h : v < 0
  · exact Or.inl (Or.inl h)
  · by_cases h2 : v ≤ 5
    · exact Or.inr ⟨h, h2⟩
    · exact Or.inl (Or.inr (Int32.not_le.mp h2))
theorem xE_cast {s : State} {H : Heap} {args : Array Value} {E : String} (hm : Cond.castable E E ∈ xNL) (h : xE s H) : (Cond.castable E E).before args s = true := xw_any rfl (h.2.2.1 _ hm)
theorem xc_EIS : Cond.castable EIS EIS ∈ xNL := by decide +kernel
theorem xc_EIA : Cond.castable EIA EIA ∈ xNL := by decide +kernel
theorem xc_EIO : Cond.castable EIO EIO ∈ xNL := by decide +kernel
section LROWS
variable {p : Program} {l : Launch} {e : Env} {R : Room} {s : State} {m : MethodId} {args : Array Value} {below : List Frame} {meth : Method} {c : Code} {H : Heap} {locs : List Loc} {cells slots : Nat} {Q : State → Prop}
variable {cc bytes : ByteArray} {pc nL maxL n index : Nat} {ls : Array Slot} {rest st0 As : List Value} {ret : Option FieldType} {ws : List Cond} {rm : Room} {own : String} {Ts : List Cond} {y : MethodName} {D : va_G} {cl : List vw_C} {tys : List (ClassId × FieldType)} {hh : List (Nat × Nat × Nat × Nat)}
theorem sc_g {w w1 : va_W} {A : Nat → Prop} {H0 : Heap} (S : CallFix p m c cc nL s args Ts own) (hM : Met l y ws rm (va_Pc As (rd D cl tys H)) (va_Qi (fun r (_ : Unit) => r = 0) (fun _ t => va_P D cl w1 t.heap) (va_A w H.size)) 0 0 (va_A w H.size)) (cw : vx_CSW R s args own index y bytes maxL ret hh ws rm 0 0 n) (hK : va_K D cl tys s) (hS : va_S A H0 H locs) (hF : ∀ q, va_A w H.size q → A q) (hn : As.length = n) (hsz : ls.size = nL) (hW : (rest.map fun v => v.category).sum ≤ 8) (hst : st0 = As.reverse ++ rest) (hdg : decode cc pc = .ok (.invokestatic index, 3)) (hf : cells ≤ R.cells ∧ slots ≤ R.slots)
    (kk : ∀ (H1 : Heap) (locs1 : List Loc), va_P D cl w1 H1 → H.size ≤ H1.size → (∀ q : Nat, q < H.size → ¬ va_A w H.size q → H1[q]? = H[q]?) → va_S A H0 H1 locs1 → W p l e R s m args below meth c H1 locs1 cells slots Q (F0 m (pc + 3) ls (.int 0 :: rest))) : W p l e R s m args below meth c H locs cells slots Q (F0 m pc ls st0) :=
  va_calli (vx_runSW (As := As) (rest := rest) S hM cw ⟨rd_blind, rd_pre hK⟩ rfl hn hsz hst (lv_room hW) hdg hf) hS (fun q _ h => hF q h) hF (fun r u t H1 locs1 ht hvm hw hB hz1 hk1 hS1 => by subst hw; exact kk H1 locs1 (by rw [← ht]; exact hB) hz1 hk1 hS1)
theorem sc_b {k : Int32} {A : Nat → Prop} {H0 : Heap} (S : CallFix p m c cc nL s args Ts own) (hM : Met l y ws rm (va_Pc As (rdx D cl tys H)) (va_Qi (fun r (_ : Unit) => r = k) (fun _ _ => True) (fun _ => False)) 1 6 (fun _ => False)) (cw : vx_CSW R s args own index y bytes maxL ret hh ws rm 1 6 n) (hK : va_K D cl tys s) (hE : xE s H) (hS : va_S A H0 H locs) (hn : As.length = n) (hsz : ls.size = nL) (hW : (rest.map fun v => v.category).sum ≤ 8) (hst : st0 = As.reverse ++ rest) (hdg : decode cc pc = .ok (.invokestatic index, 3)) (hf : cells + 1 ≤ R.cells ∧ slots + 6 ≤ R.slots)
    (kk : ∀ (H1 : Heap) (locs1 : List Loc), H.size ≤ H1.size → (∀ q : Nat, q < H.size → H1[q]? = H[q]?) → va_S A H0 H1 locs1 → W p l e R s m args below meth c H1 locs1 (cells + 1) (slots + 6) Q (F0 m (pc + 3) ls (.int k :: rest))) : W p l e R s m args below meth c H locs cells slots Q (F0 m pc ls st0) :=
  va_calli (vx_runSW (As := As) (rest := rest) S hM cw ⟨rdx_blind, rdx_pre hK hE⟩ rfl hn hsz hst (lv_room hW) hdg hf) hS (fun q _ h => h.elim) (fun q h => h.elim) (fun r u t H1 locs1 ht hvm hw hB hz1 hk1 hS1 => by subst hw; exact kk H1 locs1 hz1 (fun q h => hk1 q h (fun z => z)) hS1)
theorem s_ld (hx : p.tables.exec = Jvm.exec) (hb : c.code = cc) {A : Nat → Prop} {H0 : Heap} {b L : Nat} {xs : Nat → Int32} (hX : va_X b L xs s H0) (hbl : b < H0.size) (hbA : ¬ A b) (hS : va_S A H0 H locs) {j : Nat} (hj : j < L) (hL : L < 2 ^ 31) (hdg : decode cc pc = .ok (.iaload, 1))
    (kk : W p l e R s m args below meth c H locs cells slots Q (F0 m (pc + 1) ls (.int (xs j) :: rest))) : W p l e R s m args below meth c H locs cells slots Q (F0 m pc ls (.int (nI j) :: .ref b :: rest)) :=
  va_sld hx hb hX hbl hbA hS (vp_in_nI hj hL) hdg (by rw [nI_clamp (by omega)]; exact kk)
/-- x = y ? 1 : 0 of an int and 0, by a jump -/
theorem lv_bz (hx : p.tables.exec = Jvm.exec) (hb : c.code = cc) {x : Int32} {off off2 : Int} {t0 : Nat} (d0 : decode cc pc = .ok (.ifCond .eq off, 3)) (d1 : decode cc (pc + 3) = .ok (.iconst 1, 1)) (d2 : decode cc (pc + 4) = .ok (.goto off2, 3)) (d3 : decode cc t0 = .ok (.iconst 0, 1)) (ht : (pc : Int) + off = (t0 : Int)) (ht2 : ((pc + 4 : Nat) : Int) + off2 = ((t0 + 1 : Nat) : Int))
    (k : W p l e R s m args below meth c H locs cells slots Q (F0 m (t0 + 1) ls (.int (bI (!(decide (x = 0)))) :: rest))) : W p l e R s m args below meth c H locs cells slots Q (F0 m pc ls (.int x :: rest)) :=
  lv_if_eq (tgt := t0) hx hb d0 ht (fun h => lv_iconst (v := 0) hx hb d3 (by decide) (by rw [decide_eq_true h] at k; exact k))
    (fun h => lv_iconst (v := 1) hx hb d1 (by decide) (lv_goto (tgt := t0 + 1) hx hb d2 ht2 (by rw [decide_eq_false h] at k; exact k)))
/-- a boolean as a long, by a jump -/
theorem lv_bl (hx : p.tables.exec = Jvm.exec) (hb : c.code = cc) {z : Bool} {off off2 : Int} {t0 : Nat} (d0 : decode cc pc = .ok (.ifCond .eq off, 3)) (d1 : decode cc (pc + 3) = .ok (.lconst 1, 1)) (d2 : decode cc (pc + 4) = .ok (.goto off2, 3)) (d3 : decode cc t0 = .ok (.lconst 0, 1)) (ht : (pc : Int) + off = (t0 : Int)) (ht2 : ((pc + 4 : Nat) : Int) + off2 = ((t0 + 1 : Nat) : Int))
    (k : W p l e R s m args below meth c H locs cells slots Q (F0 m (t0 + 1) ls (.long (bI z).toInt64 :: rest))) : W p l e R s m args below meth c H locs cells slots Q (F0 m pc ls (.int (bI z) :: rest)) :=
  lv_ifb_eq (tgt := t0) hx hb d0 ht (fun h => lv_lconst (v := (bI z).toInt64) hx hb d3 (by rw [h]; decide) k)
    (fun h => lv_lconst (v := (bI z).toInt64) hx hb d1 (by rw [h]; decide) (lv_goto (tgt := t0 + 1) hx hb d2 ht2 k))
theorem lg_self (x : Int64) : lg_cmp x x = 0 := by
  unfold lg_cmp
  rw [if_neg (fun h => Int64.lt_irrefl h), if_pos rfl]
theorem lv_leq (hx : p.tables.exec = Jvm.exec) (hb : c.code = cc) {x y : Int64} {off : Int} {tgt : Nat} (exy : x = y) (d0 : decode cc pc = .ok (.lcmp, 1)) (d1 : decode cc (pc + 1) = .ok (.ifCond .eq off, 3)) (ht : ((pc + 1 : Nat) : Int) + off = (tgt : Int))
    (k : W p l e R s m args below meth c H locs cells slots Q (F0 m tgt ls rest)) : W p l e R s m args below meth c H locs cells slots Q (F0 m pc ls (.long y :: .long x :: rest)) :=
  W.lcmp hx hb d0 (lv_if_eq (tgt := tgt) hx hb d1 ht (fun _ => k) (fun h => absurd (by rw [exy]; exact lg_self y) h))
theorem lv_ieq (hx : p.tables.exec = Jvm.exec) (hb : c.code = cc) {x y : Int32} {off : Int} {tgt : Nat} (exy : x = y) (d0 : decode cc pc = .ok (.if_icmp .eq off, 3)) (ht : (pc : Int) + off = (tgt : Int))
    (k : W p l e R s m args below meth c H locs cells slots Q (F0 m tgt ls rest)) : W p l e R s m args below meth c H locs cells slots Q (F0 m pc ls (.int y :: .int x :: rest)) :=
  lv_icmp_eq (tgt := tgt) hx hb d0 ht (fun _ => k) (fun h => absurd exy h)
theorem in_0 : vp_in 0 1 := by
  have h := vp_in_nI (n := 0) (N := 1) (by decide) (by decide)
  rw [nI_0] at h
  exact h
theorem cl_0 : (0 : Int32).toNatClampNeg = 0 := by decide
theorem ll_st (hx : p.tables.exec = Jvm.exec) (hb : c.code = cc) {w : va_W} {a : Nat} {A : Nat → Prop} {H0 : Heap} (hK : va_K D cl tys s) (hP : va_P D cl w H) (hD : va_D A w) (hS : va_S A H0 H locs) (q0 t0 : Nat) {cA : ClassId} {f : Nat → Int64} (ha : w[q0]? = some (a, .inl (cA, 1, .inr (.inl f)))) (ht : tys[t0]? = some (cA, .long)) {x : Int64} (hdg : decode cc pc = .ok (.lastore, 1))
    (kk : ∀ (H1 : Heap) (locs1 : List Loc), va_P D cl (w.set q0 (a, .inl (cA, 1, .inr (.inl (vp_updL f 0 x))))) H1 → va_S A H0 H1 locs1 → W p l e R s m args below meth c H1 locs1 cells slots Q (F0 m (pc + 1) ls rest)) : W p l e R s m args below meth c H locs cells slots Q (F0 m pc ls (.long x :: .int 0 :: .ref a :: rest)) :=
  va_last hx hb hK hP hD hS q0 t0 ha ht in_0 hdg (fun H1 l1 h1 _ h3 => kk H1 l1 (by rw [cl_0] at h1; exact h1) h3)
theorem ll_ld (hx : p.tables.exec = Jvm.exec) (hb : c.code = cc) {w : va_W} {a : Nat} (hK : va_K D cl tys s) (hP : va_P D cl w H) (q0 t0 : Nat) {cA : ClassId} {f : Nat → Int64} (ha : w[q0]? = some (a, .inl (cA, 1, .inr (.inl f)))) (ht : tys[t0]? = some (cA, .long)) (hdg : decode cc pc = .ok (.laload, 1))
    (kk : W p l e R s m args below meth c H locs cells slots Q (F0 m (pc + 1) ls (.long (f 0) :: rest))) : W p l e R s m args below meth c H locs cells slots Q (F0 m pc ls (.int 0 :: .ref a :: rest)) :=
  va_lald hx hb hK hP q0 t0 ha ht in_0 hdg (by rw [cl_0]; exact kk)
end LROWS
