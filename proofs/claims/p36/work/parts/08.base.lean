/-! ===== rows of our own over the kit's: calls that read, calls that write, throws, loops; the worlds of the two classes ===== -/
section BASE
theorem va_D_re {A : Nat → Prop} {w w' : va_W} (h : va_D A w) (e : w'.map (fun q => q.1) = w.map (fun q => q.1)) : va_D A w' := by
  have key : ∀ (k : Nat) (q : Nat × va_E), w'[k]? = some q → ∃ q0, w[k]? = some q0 ∧ q0.1 = q.1 := by
    intro k q hk
    have h1 : (w.map (fun q => q.1))[k]? = some q.1 := by rw [← e, List.getElem?_map, hk]; rfl
    rw [List.getElem?_map] at h1
    cases h2 : w[k]? with
    | none => rw [h2] at h1; cases h1
    | some q0 => rw [h2] at h1; exact ⟨q0, rfl, Option.some.inj h1⟩
  refine ⟨fun i j x y hi hj hxy => ?_, fun k q hk => ?_⟩
  · obtain ⟨x0, h1, h2⟩ := key i x hi
    obtain ⟨y0, h3, h4⟩ := key j y hj
    exact h.1 i j x0 y0 h1 h3 (h2.trans (hxy.trans h4.symm))
  · obtain ⟨q0, h1, h2⟩ := key k q hk
    rw [← h2]
    exact h.2 k q0 h1
theorem va_free_all {A : Nat → Prop} {w : va_W} {H0 H : Heap} {locs : List Loc} (hD : va_D A w) (hS : va_S A H0 H locs) (hA : ∀ q, H0.size ≤ q → A q) : ∀ q, va_A w H.size q → A q := by
  intro q h
  rcases h with ⟨k, e, h⟩ | h
  · exact hD.2 k (q, e) h
  · exact hA q (Nat.le_trans hS.1 h)
theorem arr_cong {cA : ClassId} {n : Nat} {f g : Nat → Int32} (h : ∀ j, j < n → f j = g j) : vp_cell cA (n, .inl f) = vp_cell cA (n, .inl g) := by
  rw [vp_cell_i, vp_cell_i]
  unfold arrV
  congr 2
  funext j
  show Value.int (f j.val) = Value.int (g j.val)
  rw [h j.val j.isLt]
/-- a row of a world under another name that agrees on its length -/
theorem va_P_arr {D : va_G} {cl : List vw_C} {w : va_W} {H : Heap} (h : va_P D cl w H) (k : Nat) {a : Nat} {cA : ClassId} {n : Nat} {f g : Nat → Int32} (hk : w[k]? = some (a, .inl (cA, n, .inl f))) (hfg : ∀ j, j < n → f j = g j) : va_P D cl (w.set k (a, .inl (cA, n, .inl g))) H := by
  have hl := (List.getElem?_eq_some_iff.mp hk).1
  intro i q hi
  by_cases hik : i = k
  · subst hik
    rw [List.getElem?_set_self hl] at hi
    cases hi
    have h1 : H[a]? = some (vp_cell cA (n, .inl f)) := h i _ hk
    show H[a]? = some (vp_cell cA (n, .inl g))
    rw [h1, arr_cong hfg]
  · rw [List.getElem?_set_ne (Ne.symm hik)] at hi
    exact h i q hi
abbrev rd (D : va_G) (cl : List vw_C) (tys : List (ClassId × FieldType)) (H : Heap) : State → Prop := fun U => U.heap = H ∧ va_K D cl tys U
theorem rd_blind {D : va_G} {cl : List vw_C} {tys : List (ClassId × FieldType)} {H : Heap} {av : List Value} : FrameBlind (va_Pc av (rd D cl tys H)) := by
  intro a U g mk q
  obtain ⟨q1, q2, q3⟩ := q
  exact ⟨q1, q2, va_K.moved (u := U) (U := U.calling g mk a) (Vm.Alike.refl U.vm) q3⟩
/-! what a throw needs of the start -/
abbrev EIS : String := "java/lang/IllegalStateException"
abbrev EIA : String := "java/lang/IllegalArgumentException"
abbrev EIO : String := "java/lang/IndexOutOfBoundsException"
abbrev xnames : List String := ["java/lang/RuntimeException", "java/lang/Exception"]
def xNL : List Cond := (vx_atS RX0 46 EIS xnames).filter (fun w => !goodWord w) ++ ((vx_atS RX0 53 EIA xnames).filter (fun w => !goodWord w) ++ (vx_atS RX0 191 EIO xnames).filter (fun w => !goodWord w))
def xkind : Cond → Bool
  | .castable .. => true
  | .declares _ => true
  | _ => false
theorem xNL_kind : xNL.all xkind = true := by decide +kernel
theorem xw_moved {w : Cond} (hk : xkind w = true) {u U : State} (hvm : u.vm.Alike U.vm) (h : w.before #[] u = true) : w.before #[] U = true := by
  cases w <;> first
    | exact va_tabs rfl (rfl : (u.setVm U.vm).vm = U.vm) (by rw [Cond.castable_setVm hvm]; exact h)
    | exact va_tabs rfl (rfl : (u.setVm U.vm).vm = U.vm) (by rw [Cond.declares_setVm hvm]; exact h)
    | exact absurd hk (by decide)
    | simp [xkind] at hk
theorem xw_any {w : Cond} (hk : xkind w = true) {U : State} {a : Array Value} (h : w.before #[] U = true) : w.before a U = true := by
  cases w <;> first
    | exact va_tabs rfl rfl h
    | exact absurd hk (by decide)
    | simp [xkind] at hk
def strL : List (Nat × String) := [(44, "there are 8 things"), (51, "stubbornness is not 0 to 5"), (54, "there are 8 astronomers"), (189, "there is no such thing"), (192, "there is no such night"), (194, "there is no such astronomer"), (196, "things is not 0 to the set of all things"), (198, "things is not 1 to the set of all things"), (200, "there are 40 nights")]
def xE (U : State) (H : Heap) : Prop := vx_Zq Bundle.tN "UNASSIGNED_STACK" Bundle.steD (fun _ => False) U H ∧ vx_Zq Bundle.tN "SUPPRESSED_SENTINEL" Bundle.listD (fun _ => False) U H ∧ (∀ w ∈ xNL, w.before #[] U = true) ∧ (∀ q ∈ strL, ∃ sa, vk_R RX0 q.1 q.2 sa U) ∧ va_Nc EIS EIA U ∧ va_Nc EIA EIO U
theorem xE_go {s U : State} {H : Heap} (hW : s.WarmedH U.vm) (h : xE s H) : xE U H := by
  obtain ⟨h1, h2, h3, h4, h5, h6⟩ := h
  refine ⟨vx_Zq.moved hW.alike h1, vx_Zq.moved hW.alike h2, fun w hw => xw_moved (List.all_eq_true.mp xNL_kind w hw) hW.alike (h3 w hw), fun q hq => ?_, h5.moved hW.alike, h6.moved hW.alike⟩
  obtain ⟨sa, h⟩ := h4 q hq
  exact ⟨sa, vk_R.warm hW h⟩
theorem xE_kept {s : State} {H H1 : Heap} {A : Nat → Prop} {locs : List Loc} (hU : vx_Zq Bundle.tN "UNASSIGNED_STACK" Bundle.steD A s H) (hN : vx_Zq Bundle.tN "SUPPRESSED_SENTINEL" Bundle.listD A s H) (h3 : ∀ w ∈ xNL, w.before #[] s = true) (h4 : ∀ q ∈ strL, ∃ sa, vk_R RX0 q.1 q.2 sa s) (h5 : va_Nc EIS EIA s) (h6 : va_Nc EIA EIO s) (hS : va_S A H H1 locs) : xE s H1 :=
  ⟨(hU.kept hS.2.1).narrow (fun _ h => h.elim), (hN.kept hS.2.1).narrow (fun _ h => h.elim), h3, h4, h5, h6⟩
abbrev rdx (D : va_G) (cl : List vw_C) (tys : List (ClassId × FieldType)) (H : Heap) : State → Prop := fun U => U.heap = H ∧ va_K D cl tys U ∧ xE U H
theorem rdx_blind {D : va_G} {cl : List vw_C} {tys : List (ClassId × FieldType)} {H : Heap} {av : List Value} : FrameBlind (va_Pc av (rdx D cl tys H)) := by
  intro a U g mk q
  obtain ⟨q1, q2, q3, q4⟩ := q
  exact ⟨q1, q2, va_K.moved (u := U) (U := U.calling g mk a) (Vm.Alike.refl U.vm) q3, xE_go (s := U) (U := U.calling g mk a) (State.WarmedH.refl U) q4⟩
/-- it throws E0, and changes nothing -/
abbrev xX (E0 : String) : String → State → State → Prop := vx_X (fun _ : Unit => True) (fun E _ _ => E = E0) (fun _ => False)
abbrev xno : Array Value → State → Outcome → State → Prop := fun _ _ _ _ => False
section CALLS
variable {p : Program} {l : Launch} {e : Env} {R : Room} {s : State} {m : MethodId} {args : Array Value} {below : List Frame} {meth : Method} {c : Code} {H : Heap} {locs : List Loc} {cells slots : Nat} {Q : State → Prop}
variable {cc bytes : ByteArray} {pc nL maxL n index : Nat} {ls : Array Slot} {rest st0 As : List Value} {ret : Option FieldType} {ws : List Cond} {rm : Room} {own C : String} {b : Addr} {Ts : List Cond} {y : MethodName} {D : va_G} {cl : List vw_C} {tys : List (ClassId × FieldType)}
theorem rd_pre {av : List Value} (hK : va_K D cl tys s) : ∀ U : State, U.heap = H → s.WarmedH U.vm → va_Pc av (rd D cl tys H) av.toArray U := fun U hU hW => ⟨rfl, hU, va_K.moved hW.alike hK⟩
theorem rdx_pre {av : List Value} (hK : va_K D cl tys s) (hE : xE s H) : ∀ U : State, U.heap = H → s.WarmedH U.vm → va_Pc av (rdx D cl tys H) av.toArray U := fun U hU hW => ⟨rfl, hU, va_K.moved hW.alike hK, xE_go hW hE⟩
theorem lv_cst {x y : Int32} (h : x = y) (k : W p l e R s m args below meth c H locs cells slots Q (F0 m pc ls (.int y :: rest))) : W p l e R s m args below meth c H locs cells slots Q (F0 m pc ls (.int x :: rest)) := by rw [h]; exact k
theorem lv_cstl {x y : Int64} (h : x = y) (k : W p l e R s m args below meth c H locs cells slots Q (F0 m pc ls (.long y :: rest))) : W p l e R s m args below meth c H locs cells slots Q (F0 m pc ls (.long x :: rest)) := by rw [h]; exact k
theorem lv_ifb_eq (hx : p.tables.exec = Jvm.exec) (hb : c.code = cc) {x : Bool} {off : Int} {tgt : Nat} (hdg : decode cc pc = .ok (.ifCond .eq off, 3)) (ht : (pc : Int) + off = (tgt : Int))
    (kt : x = false → W p l e R s m args below meth c H locs cells slots Q (F0 m tgt ls rest)) (kf : x = true → W p l e R s m args below meth c H locs cells slots Q (F0 m (pc + 3) ls rest)) : W p l e R s m args below meth c H locs cells slots Q (F0 m pc ls (.int (bI x) :: rest)) :=
  lv_if_eq hx hb hdg ht (fun h => kt (bI_z h)) (fun h => kf (bI_nz h))
theorem lv_ifb_ne (hx : p.tables.exec = Jvm.exec) (hb : c.code = cc) {x : Bool} {off : Int} {tgt : Nat} (hdg : decode cc pc = .ok (.ifCond .ne off, 3)) (ht : (pc : Int) + off = (tgt : Int))
    (kt : x = true → W p l e R s m args below meth c H locs cells slots Q (F0 m tgt ls rest)) (kf : x = false → W p l e R s m args below meth c H locs cells slots Q (F0 m (pc + 3) ls rest)) : W p l e R s m args below meth c H locs cells slots Q (F0 m pc ls (.int (bI x) :: rest)) :=
  lv_if_ne hx hb hdg ht (fun h => kt (bI_nz h)) (fun h => kf (bI_z h))
/-- x = y ? 0 : 1, by a jump -/
theorem lv_bne (hx : p.tables.exec = Jvm.exec) (hb : c.code = cc) {x y : Int32} {off off2 : Int} {t0 : Nat} (d0 : decode cc pc = .ok (.if_icmp .eq off, 3)) (d1 : decode cc (pc + 3) = .ok (.iconst 1, 1)) (d2 : decode cc (pc + 4) = .ok (.goto off2, 3)) (d3 : decode cc t0 = .ok (.iconst 0, 1)) (ht : (pc : Int) + off = (t0 : Int)) (ht2 : ((pc + 4 : Nat) : Int) + off2 = ((t0 + 1 : Nat) : Int))
    (k : W p l e R s m args below meth c H locs cells slots Q (F0 m (t0 + 1) ls (.int (bI (!(decide (x = y)))) :: rest))) : W p l e R s m args below meth c H locs cells slots Q (F0 m pc ls (.int y :: .int x :: rest)) :=
  lv_icmp_eq (tgt := t0) hx hb d0 ht (fun h => lv_iconst (v := 0) hx hb d3 (by decide) (by rw [decide_eq_true h] at k; exact k))
    (fun h => lv_iconst (v := 1) hx hb d1 (by decide) (lv_goto (tgt := t0 + 1) hx hb d2 ht2 (by rw [decide_eq_false h] at k; exact k)))
/-- rows at the place nI j -/
theorem ia_ld (hx : p.tables.exec = Jvm.exec) (hb : c.code = cc) {w : va_W} {a : Nat} (hK : va_K D cl tys s) (hP : va_P D cl w H) (q0 t0 : Nat) {cA : ClassId} {n : Nat} {f : Nat → Int32} (ha : w[q0]? = some (a, .inl (cA, n, .inl f))) (ht : tys[t0]? = some (cA, .int)) {j : Nat} (hj : j < n) (hn : n ≤ 256) (hdg : decode cc pc = .ok (.iaload, 1))
    (kk : W p l e R s m args below meth c H locs cells slots Q (F0 m (pc + 1) ls (.int (f j) :: rest))) : W p l e R s m args below meth c H locs cells slots Q (F0 m pc ls (.int (nI j) :: .ref a :: rest)) :=
  va_iald hx hb hK hP q0 t0 ha ht (vp_in_nI hj (by omega)) hdg (by rw [nI_clamp (by omega)]; exact kk)
theorem za_ld (hx : p.tables.exec = Jvm.exec) (hb : c.code = cc) {w : va_W} {a : Nat} (hK : va_K D cl tys s) (hP : va_P D cl w H) (q0 t0 : Nat) {cA : ClassId} {n : Nat} {f : Nat → Bool} (ha : w[q0]? = some (a, .inl (cA, n, .inl (fun j => bI (f j))))) (ht : tys[t0]? = some (cA, .boolean)) {j : Nat} (hj : j < n) (hn : n ≤ 256) (hdg : decode cc pc = .ok (.baload, 1))
    (kk : W p l e R s m args below meth c H locs cells slots Q (F0 m (pc + 1) ls (.int (bI (f j)) :: rest))) : W p l e R s m args below meth c H locs cells slots Q (F0 m pc ls (.int (nI j) :: .ref a :: rest)) :=
  va_zald hx hb hK hP q0 t0 ha ht (vp_in_nI hj (by omega)) hdg (by rw [nI_clamp (by omega)]; exact kk)
theorem ia_st (hx : p.tables.exec = Jvm.exec) (hb : c.code = cc) {w : va_W} {a : Nat} {A : Nat → Prop} {H0 : Heap} (hK : va_K D cl tys s) (hP : va_P D cl w H) (hD : va_D A w) (hS : va_S A H0 H locs) (q0 t0 : Nat) {cA : ClassId} {n : Nat} {f : Nat → Int32} (ha : w[q0]? = some (a, .inl (cA, n, .inl f))) (ht : tys[t0]? = some (cA, .int)) {j : Nat} {x : Int32} (hj : j < n) (hn : n ≤ 256) (hdg : decode cc pc = .ok (.iastore, 1))
    (kk : ∀ (H1 : Heap) (locs1 : List Loc), va_P D cl (w.set q0 (a, .inl (cA, n, .inl (upd f j x)))) H1 → va_S A H0 H1 locs1 → W p l e R s m args below meth c H1 locs1 cells slots Q (F0 m (pc + 1) ls rest)) : W p l e R s m args below meth c H locs cells slots Q (F0 m pc ls (.int x :: .int (nI j) :: .ref a :: rest)) :=
  va_iast hx hb hK hP hD hS q0 t0 ha ht (vp_in_nI hj (by omega)) hdg (fun H1 l1 h1 _ h3 => kk H1 l1 (by rw [nI_clamp (by omega)] at h1; exact h1) h3)
theorem za_st (hx : p.tables.exec = Jvm.exec) (hb : c.code = cc) {w : va_W} {a : Nat} {A : Nat → Prop} {H0 : Heap} (hK : va_K D cl tys s) (hP : va_P D cl w H) (hD : va_D A w) (hS : va_S A H0 H locs) (q0 t0 : Nat) {cA : ClassId} {n : Nat} {f : Nat → Bool} (ha : w[q0]? = some (a, .inl (cA, n, .inl (fun j => bI (f j))))) (ht : tys[t0]? = some (cA, .boolean)) {j : Nat} {x : Bool} (hj : j < n) (hn : n ≤ 256) (hdg : decode cc pc = .ok (.bastore, 1))
    (kk : ∀ (H1 : Heap) (locs1 : List Loc), va_P D cl (w.set q0 (a, .inl (cA, n, .inl (fun k => bI (updB f j x k))))) H1 → va_S A H0 H1 locs1 → W p l e R s m args below meth c H1 locs1 cells slots Q (F0 m (pc + 1) ls rest)) : W p l e R s m args below meth c H locs cells slots Q (F0 m pc ls (.int (bI x) :: .int (nI j) :: .ref a :: rest)) :=
  va_zast hx hb hK hP hD hS q0 t0 ha ht (vp_in_nI hj (by omega)) hdg (fun H1 l1 h1 _ h3 => kk H1 l1 (by rw [nI_clamp (by omega), bI_vnar, updB_bI] at h1; exact h1) h3)
/-- calls that read -/
theorem pcV_i {v : Int32} (S : CallFix p m c cc nL s args Ts own) (hM : Met l y ws rm (va_Pc (.ref b :: As) (rd D cl tys H)) (vp_Si (fun r => r = v)) 0 0 (fun _ => False)) (cw : CallW R s args own C index y bytes maxL ret ws rm 0 0 n) (hr : ∃ cellB : Cell, H[b]? = some cellB ∧ cellB.vm.isStatics = false ∧ s.vm.findClass C = some cellB.cls) (hK : va_K D cl tys s) (hn : As.length = n) (hsz : ls.size = nL) (hW : (rest.map fun v => v.category).sum ≤ 8) (hst : st0 = As.reverse ++ .ref b :: rest) (hdg : decode cc pc = .ok (.invokevirtual index, 3)) (hf : cells ≤ R.cells ∧ slots ≤ R.slots)
    (kk : W p l e R s m args below meth c H locs cells slots Q (F0 m (pc + 3) ls (.int v :: rest))) : W p l e R s m args below meth c H locs cells slots Q (F0 m pc ls st0) :=
  vp_callSi (W.runV (As := As) (rest := rest) S hM cw ⟨rd_blind, hr, rd_pre hK⟩ rfl hn hsz hst (lv_room hW) hdg hf) (fun r hrv => by subst hrv; exact kk)
theorem pcV_l {v : Int64} (S : CallFix p m c cc nL s args Ts own) (hM : Met l y ws rm (va_Pc (.ref b :: As) (rd D cl tys H)) (vp_Sl (fun r => r = v)) 0 0 (fun _ => False)) (cw : CallW R s args own C index y bytes maxL ret ws rm 0 0 n) (hr : ∃ cellB : Cell, H[b]? = some cellB ∧ cellB.vm.isStatics = false ∧ s.vm.findClass C = some cellB.cls) (hK : va_K D cl tys s) (hn : As.length = n) (hsz : ls.size = nL) (hW : (rest.map fun v => v.category).sum ≤ 8) (hst : st0 = As.reverse ++ .ref b :: rest) (hdg : decode cc pc = .ok (.invokevirtual index, 3)) (hf : cells ≤ R.cells ∧ slots ≤ R.slots)
    (kk : W p l e R s m args below meth c H locs cells slots Q (F0 m (pc + 3) ls (.long v :: rest))) : W p l e R s m args below meth c H locs cells slots Q (F0 m pc ls st0) :=
  vp_callSl (W.runV (As := As) (rest := rest) S hM cw ⟨rd_blind, hr, rd_pre hK⟩ rfl hn hsz hst (lv_room hW) hdg hf) (fun r hrv => by subst hrv; exact kk)
theorem pcV_d {v : UInt64} (S : CallFix p m c cc nL s args Ts own) (hM : Met l y ws rm (va_Pc (.ref b :: As) (rd D cl tys H)) (vp_Sd (fun r => r = v)) 0 0 (fun _ => False)) (cw : CallW R s args own C index y bytes maxL ret ws rm 0 0 n) (hr : ∃ cellB : Cell, H[b]? = some cellB ∧ cellB.vm.isStatics = false ∧ s.vm.findClass C = some cellB.cls) (hK : va_K D cl tys s) (hn : As.length = n) (hsz : ls.size = nL) (hW : (rest.map fun v => v.category).sum ≤ 8) (hst : st0 = As.reverse ++ .ref b :: rest) (hdg : decode cc pc = .ok (.invokevirtual index, 3)) (hf : cells ≤ R.cells ∧ slots ≤ R.slots)
    (kk : W p l e R s m args below meth c H locs cells slots Q (F0 m (pc + 3) ls (.double v :: rest))) : W p l e R s m args below meth c H locs cells slots Q (F0 m pc ls st0) :=
  vp_callSd (W.runV (As := As) (rest := rest) S hM cw ⟨rd_blind, hr, rd_pre hK⟩ rfl hn hsz hst (lv_room hW) hdg hf) (fun r hrv => by subst hrv; exact kk)
theorem pcV_v (S : CallFix p m c cc nL s args Ts own) (hM : Met l y ws rm (va_Pc (.ref b :: As) (rd D cl tys H)) (va_Sv (fun _ => True)) 0 0 (fun _ => False)) (cw : CallW R s args own C index y bytes maxL ret ws rm 0 0 n) (hr : ∃ cellB : Cell, H[b]? = some cellB ∧ cellB.vm.isStatics = false ∧ s.vm.findClass C = some cellB.cls) (hK : va_K D cl tys s) (hn : As.length = n) (hsz : ls.size = nL) (hW : (rest.map fun v => v.category).sum ≤ 8) (hst : st0 = As.reverse ++ .ref b :: rest) (hdg : decode cc pc = .ok (.invokevirtual index, 3)) (hf : cells ≤ R.cells ∧ slots ≤ R.slots)
    (kk : W p l e R s m args below meth c H locs cells slots Q (F0 m (pc + 3) ls rest)) : W p l e R s m args below meth c H locs cells slots Q (F0 m pc ls st0) :=
  va_csv (W.runV (As := As) (rest := rest) S hM cw ⟨rd_blind, hr, rd_pre hK⟩ rfl hn hsz hst (lv_room hW) hdg hf) (fun _ => kk)
theorem st_blind {av : List Value} : FrameBlind (va_Pc av (fun _ => True)) := fun _ _ _ _ q => q
theorem pcS_i {v : Int32} (S : CallFix p m c cc nL s args Ts own) (hM : Met l y ws rm (va_Pc As (fun _ => True)) (vp_Si (fun r => r = v)) 0 0 (fun _ => False)) (cw : CallB R s args own index y bytes maxL ret ws rm 0 0 n ∧ (Cond.static y).before args s = true) (hn : As.length = n) (hsz : ls.size = nL) (hW : (rest.map fun v => v.category).sum ≤ 8) (hst : st0 = As.reverse ++ rest) (hdg : decode cc pc = .ok (.invokestatic index, 3)) (hf : cells ≤ R.cells ∧ slots ≤ R.slots)
    (kk : W p l e R s m args below meth c H locs cells slots Q (F0 m (pc + 3) ls (.int v :: rest))) : W p l e R s m args below meth c H locs cells slots Q (F0 m pc ls st0) :=
  vp_callSi (W.runS (As := As) (rest := rest) S hM cw ⟨st_blind, fun U hU hW => ⟨rfl, trivial⟩⟩ rfl hn hsz hst (lv_room hW) hdg hf) (fun r hrv => by subst hrv; exact kk)
theorem pcS_l {v : Int64} (S : CallFix p m c cc nL s args Ts own) (hM : Met l y ws rm (va_Pc As (fun _ => True)) (vp_Sl (fun r => r = v)) 0 0 (fun _ => False)) (cw : CallB R s args own index y bytes maxL ret ws rm 0 0 n ∧ (Cond.static y).before args s = true) (hn : As.length = n) (hsz : ls.size = nL) (hW : (rest.map fun v => v.category).sum ≤ 8) (hst : st0 = As.reverse ++ rest) (hdg : decode cc pc = .ok (.invokestatic index, 3)) (hf : cells ≤ R.cells ∧ slots ≤ R.slots)
    (kk : W p l e R s m args below meth c H locs cells slots Q (F0 m (pc + 3) ls (.long v :: rest))) : W p l e R s m args below meth c H locs cells slots Q (F0 m pc ls st0) :=
  vp_callSl (W.runS (As := As) (rest := rest) S hM cw ⟨st_blind, fun U hU hW => ⟨rfl, trivial⟩⟩ rfl hn hsz hst (lv_room hW) hdg hf) (fun r hrv => by subst hrv; exact kk)
/-- calls that write: the world w becomes w1 -/
theorem wcV_i {v : Int32} {w w1 : va_W} {A : Nat → Prop} {H0 : Heap} {mc ms : Nat} (S : CallFix p m c cc nL s args Ts own) (hM : Met l y ws rm (va_Pc (.ref b :: As) (rd D cl tys H)) (va_Qi (fun r (_ : Unit) => r = v) (fun _ t => va_P D cl w1 t.heap) (va_A w H.size)) mc ms (va_A w H.size)) (cw : CallW R s args own C index y bytes maxL ret ws rm mc ms n) (hr : ∃ cellB : Cell, H[b]? = some cellB ∧ cellB.vm.isStatics = false ∧ s.vm.findClass C = some cellB.cls) (hK : va_K D cl tys s) (hS : va_S A H0 H locs) (hF : ∀ q, va_A w H.size q → A q) (hn : As.length = n) (hsz : ls.size = nL) (hW : (rest.map fun v => v.category).sum ≤ 8) (hst : st0 = As.reverse ++ .ref b :: rest) (hdg : decode cc pc = .ok (.invokevirtual index, 3)) (hf : cells + mc ≤ R.cells ∧ slots + ms ≤ R.slots)
    (kk : ∀ (H1 : Heap) (locs1 : List Loc), va_P D cl w1 H1 → H.size ≤ H1.size → (∀ q : Nat, q < H.size → ¬ va_A w H.size q → H1[q]? = H[q]?) → va_S A H0 H1 locs1 → W p l e R s m args below meth c H1 locs1 (cells + mc) (slots + ms) Q (F0 m (pc + 3) ls (.int v :: rest))) : W p l e R s m args below meth c H locs cells slots Q (F0 m pc ls st0) :=
  va_calli (va_runV (As := As) (rest := rest) S hM cw ⟨rd_blind, hr, rd_pre hK⟩ rfl hn hsz hst (lv_room hW) hdg hf) hS (fun q _ h => hF q h) hF (fun r u t H1 locs1 ht hvm hw hB hz1 hk1 hS1 => by subst hw; exact kk H1 locs1 (by rw [← ht]; exact hB) hz1 hk1 hS1)
theorem wcV_l {v : Int64} {w w1 : va_W} {A : Nat → Prop} {H0 : Heap} {mc ms : Nat} (S : CallFix p m c cc nL s args Ts own) (hM : Met l y ws rm (va_Pc (.ref b :: As) (rd D cl tys H)) (va_Ql (fun r (_ : Unit) => r = v) (fun _ t => va_P D cl w1 t.heap) (va_A w H.size)) mc ms (va_A w H.size)) (cw : CallW R s args own C index y bytes maxL ret ws rm mc ms n) (hr : ∃ cellB : Cell, H[b]? = some cellB ∧ cellB.vm.isStatics = false ∧ s.vm.findClass C = some cellB.cls) (hK : va_K D cl tys s) (hS : va_S A H0 H locs) (hF : ∀ q, va_A w H.size q → A q) (hn : As.length = n) (hsz : ls.size = nL) (hW : (rest.map fun v => v.category).sum ≤ 8) (hst : st0 = As.reverse ++ .ref b :: rest) (hdg : decode cc pc = .ok (.invokevirtual index, 3)) (hf : cells + mc ≤ R.cells ∧ slots + ms ≤ R.slots)
    (kk : ∀ (H1 : Heap) (locs1 : List Loc), va_P D cl w1 H1 → H.size ≤ H1.size → (∀ q : Nat, q < H.size → ¬ va_A w H.size q → H1[q]? = H[q]?) → va_S A H0 H1 locs1 → W p l e R s m args below meth c H1 locs1 (cells + mc) (slots + ms) Q (F0 m (pc + 3) ls (.long v :: rest))) : W p l e R s m args below meth c H locs cells slots Q (F0 m pc ls st0) :=
  va_calll (va_runV (As := As) (rest := rest) S hM cw ⟨rd_blind, hr, rd_pre hK⟩ rfl hn hsz hst (lv_room hW) hdg hf) hS (fun q _ h => hF q h) hF (fun r u t H1 locs1 ht hvm hw hB hz1 hk1 hS1 => by subst hw; exact kk H1 locs1 (by rw [← ht]; exact hB) hz1 hk1 hS1)
theorem wcV_d {v : UInt64} {w w1 : va_W} {A : Nat → Prop} {H0 : Heap} {mc ms : Nat} (S : CallFix p m c cc nL s args Ts own) (hM : Met l y ws rm (va_Pc (.ref b :: As) (rd D cl tys H)) (va_Qd (fun r (_ : Unit) => r = v) (fun _ t => va_P D cl w1 t.heap) (va_A w H.size)) mc ms (va_A w H.size)) (cw : CallW R s args own C index y bytes maxL ret ws rm mc ms n) (hr : ∃ cellB : Cell, H[b]? = some cellB ∧ cellB.vm.isStatics = false ∧ s.vm.findClass C = some cellB.cls) (hK : va_K D cl tys s) (hS : va_S A H0 H locs) (hF : ∀ q, va_A w H.size q → A q) (hn : As.length = n) (hsz : ls.size = nL) (hW : (rest.map fun v => v.category).sum ≤ 8) (hst : st0 = As.reverse ++ .ref b :: rest) (hdg : decode cc pc = .ok (.invokevirtual index, 3)) (hf : cells + mc ≤ R.cells ∧ slots + ms ≤ R.slots)
    (kk : ∀ (H1 : Heap) (locs1 : List Loc), va_P D cl w1 H1 → H.size ≤ H1.size → (∀ q : Nat, q < H.size → ¬ va_A w H.size q → H1[q]? = H[q]?) → va_S A H0 H1 locs1 → W p l e R s m args below meth c H1 locs1 (cells + mc) (slots + ms) Q (F0 m (pc + 3) ls (.double v :: rest))) : W p l e R s m args below meth c H locs cells slots Q (F0 m pc ls st0) :=
  va_calld (va_runV (As := As) (rest := rest) S hM cw ⟨rd_blind, hr, rd_pre hK⟩ rfl hn hsz hst (lv_room hW) hdg hf) hS (fun q _ h => hF q h) hF (fun r u t H1 locs1 ht hvm hw hB hz1 hk1 hS1 => by subst hw; exact kk H1 locs1 (by rw [← ht]; exact hB) hz1 hk1 hS1)
theorem wcV_v {w w1 : va_W} {A : Nat → Prop} {H0 : Heap} {mc ms : Nat} (S : CallFix p m c cc nL s args Ts own) (hM : Met l y ws rm (va_Pc (.ref b :: As) (rd D cl tys H)) (va_Qv (fun (_ : Unit) => True) (fun _ t => va_P D cl w1 t.heap) (va_A w H.size)) mc ms (va_A w H.size)) (cw : CallW R s args own C index y bytes maxL ret ws rm mc ms n) (hr : ∃ cellB : Cell, H[b]? = some cellB ∧ cellB.vm.isStatics = false ∧ s.vm.findClass C = some cellB.cls) (hK : va_K D cl tys s) (hS : va_S A H0 H locs) (hF : ∀ q, va_A w H.size q → A q) (hn : As.length = n) (hsz : ls.size = nL) (hW : (rest.map fun v => v.category).sum ≤ 8) (hst : st0 = As.reverse ++ .ref b :: rest) (hdg : decode cc pc = .ok (.invokevirtual index, 3)) (hf : cells + mc ≤ R.cells ∧ slots + ms ≤ R.slots)
    (kk : ∀ (H1 : Heap) (locs1 : List Loc), va_P D cl w1 H1 → H.size ≤ H1.size → (∀ q : Nat, q < H.size → ¬ va_A w H.size q → H1[q]? = H[q]?) → va_S A H0 H1 locs1 → W p l e R s m args below meth c H1 locs1 (cells + mc) (slots + ms) Q (F0 m (pc + 3) ls rest)) : W p l e R s m args below meth c H locs cells slots Q (F0 m pc ls st0) :=
  va_callv (va_runV (As := As) (rest := rest) S hM cw ⟨rd_blind, hr, rd_pre hK⟩ rfl hn hsz hst (lv_room hW) hdg hf) hS (fun q _ h => hF q h) hF (fun u t H1 locs1 ht hvm hw hB hz1 hk1 hS1 => kk H1 locs1 (by rw [← ht]; exact hB) hz1 hk1 hS1)
/-- a call that throws -/
theorem bcV {E0 : String} (S : CallFix p m c cc nL s args Ts own) (hM : vx_Met l y ws rm (va_Pc (.ref b :: As) (rdx D cl tys H)) xno (xX E0) 1 6 (fun _ => False)) (cw : CallW R s args own C index y bytes maxL ret ws rm 1 6 n) (hr : ∃ cellB : Cell, H[b]? = some cellB ∧ cellB.vm.isStatics = false ∧ s.vm.findClass C = some cellB.cls) (hK : va_K D cl tys s) (hE : xE s H) (hn : As.length = n) (hsz : ls.size = nL) (hW : (rest.map fun v => v.category).sum ≤ 8) (hst : st0 = As.reverse ++ .ref b :: rest) (hdg : decode cc pc = .ok (.invokevirtual index, 3)) (hf : cells + 1 ≤ R.cells ∧ slots + 6 ≤ R.slots)
    (kx : ∀ (ce : Cell) (q9 : Addr) (H1 : Heap), H.size ≤ H1.size → (∀ q : Nat, q < H.size → H1[q]? = H[q]?) → H1[q9]? = some ce → ce.vm = .none → s.vm.findClass E0 = some ce.cls → vx_W p l e R s m args below meth c H1 locs (cells + 1) (slots + 6) Q (F0 m pc ls rest) q9) : W p l e R s m args below meth c H locs cells slots Q (F0 m pc ls st0) := by
  have hr9 : vx_Run p l e R s m args below meth c H locs cells slots 1 6 (F0 m pc ls st0) rest (xno (Value.ref b :: As).toArray) (xX E0) (fun _ => False) := vx_runV (As := As) (rest := rest) S hM cw ⟨rdx_blind, hr, rdx_pre hK hE⟩ (g := F0 m pc ls st0) rfl hn hsz hst (lv_room hW) hdg hf
  intro T hT X
  rcases hr9 T hT X with ⟨v, st₀, t, T', L, h0, X', hL, e1, e2, hq, st⟩ | ⟨q, st₀, t, T', L, E, ce, h0, X', hL, e1, e2, ⟨u, hp, hb, hF⟩, hce, hcv, hcl, st⟩
  · exact hq.elim
  · have hL0 : L = [] := List.eq_nil_iff_forall_not_mem.mpr (fun z hz => hL z hz)
    subst hL0
    rw [List.append_nil] at X'
    have hE0 : E = E0 := hb
    subst hE0
    subst h0
    obtain ⟨t2, a1, b1⟩ := kx ce q T'.heap (by rw [e1]; exact hF.1) (fun z hz => by rw [e1]; exact hF.2 z hz (fun h => h)) (by rw [e1]; exact hce) hcv hcl T' rfl X'
    exact ⟨t2, st.trans a1, b1⟩
/-- .. and lets it through -/
theorem bcV_out {E0 : String} (S : CallFix p m c cc nL s args Ts own) (hM : vx_Met l y ws rm (va_Pc (.ref b :: As) (rdx D cl tys s.heap)) xno (xX E0) 1 6 (fun _ => False)) (cw : CallW R s args own C index y bytes maxL ret ws rm 1 6 n) (hr : ∃ cellB : Cell, s.heap[b]? = some cellB ∧ cellB.vm.isStatics = false ∧ s.vm.findClass C = some cellB.cls) (hK : va_K D cl tys s) (hE : xE s s.heap) (hn : As.length = n) (hsz : ls.size = nL) (hW : (rest.map fun v => v.category).sum ≤ 8) (hst : st0 = As.reverse ++ .ref b :: rest) (hdg : decode cc pc = .ok (.invokevirtual index, 3)) (hf : 0 + 1 ≤ R.cells ∧ 0 + 6 ≤ R.slots) (ht : ∀ x ∈ c.exceptionTable.toList, False) (hlocks : meth.locks = false) :
    W p l e R s m args below meth c s.heap [] 0 0 (vx_MQ below xno (xX E0) args s 1 6 (fun _ => False)) (F0 m pc ls st0) :=
  bcV S hM cw hr hK hE hn hsz hW hst hdg hf (fun ce q9 H1 hz hk hce hv hcl => vx_out (fun x hx => (ht x hx).elim) hlocks hce hv hcl (fun t htt hvm => ⟨(), trivial, rfl, by rw [htt]; exact hz, fun q hq _ => by rw [htt]; exact hk q hq⟩) (fun z hz => absurd hz List.not_mem_nil) (Nat.le_refl _) (Nat.le_refl _))
/-- throw new E0(text) in SmudgedStar, ahead of any write -/
theorem xthrow {E0 text : String} {ik is ic : Nat} (hexec : p.tables.exec = Jvm.exec) (hb : c.code = cc) (hl0 : l.stackTraces = false) (hown : s.vm.findClass RX0 = some m.cls) (hfit : Bundle.fit E0 = true)
    (hk : (Cond.classLink RX0 ik E0).before args s = true) (hini : (Cond.initialized E0).before args s = true) (hat : ∀ w ∈ (vx_atS RX0 ic E0 xnames).filter goodWord, w.before args s = true) (hnl : ∀ w ∈ (vx_atS RX0 ic E0 xnames).filter (fun w => !goodWord w), w ∈ xNL)
    (hgood : ∀ w ∈ Cond.classLink RX0 ik E0 :: Cond.initialized E0 :: vx_atS RX0 ic E0 xnames, vx_ot w = true) (hE : xE s s.heap) (hstr : (is, text) ∈ strL) (hsize : ls.size = c.maxLocals)
    (d0 : decode cc pc = .ok (.new ik, 3)) (d3 : decode cc (pc + 3) = .ok (.dup, 1)) (d4 : decode cc (pc + 4) = .ok (.ldc is, 2)) (d6 : decode cc (pc + 6) = .ok (.invokespecial ic, 3)) (d9 : decode cc (pc + 9) = .ok (.athrow, 1))
    (ht : ∀ x ∈ c.exceptionTable.toList, False) (hlocks : meth.locks = false) (hR : 5 < R.frames ∧ (rest.map fun v => v.category).sum + 82 ≤ R.locals ∧ 0 + 1 ≤ R.cells ∧ 0 + 6 ≤ R.slots) :
    W p l e R s m args below meth c s.heap [] 0 0 (vx_MQ below xno (xX E0) args s 1 6 (fun _ => False)) (F0 m pc ls rest) := by
  obtain ⟨hU, hN, hw, hs, -, -⟩ := hE
  obtain ⟨sa, hsa⟩ := hs _ hstr
  exact vx_throwS (A := fun _ => False) (names := xnames) (ik := ik) (is := is) (ic := ic) (cls := E0) (text := text) (sa := sa) hexec hb hl0 hown hfit (by decide +kernel) hk hini hsa
    (vx_hat hat hnl (fun w hm => xw_any (List.all_eq_true.mp xNL_kind w hm) (hw w hm))) hgood hU hN va_S.rf hsize d0 d3 d4 d6 d9 (fun x hx => (ht x hx).elim) hR.1 hR.2.1 hR.2.2.1 hR.2.2.2 hlocks
    (fun t hvm h1 h2 => ⟨(), trivial, rfl, h1, fun q hq _ => h2 q hq⟩) (fun z hz => absurd hz List.not_mem_nil) (Nat.le_refl _) (Nat.le_refl _)
/-- loops: T the locals at round i, of N -/
theorem w_loop {N : Nat} {T : Nat → List (Nat × Value)} {I : Nat → Prop} (i0 : Nat) (h0 : i0 ≤ N) (hI : I i0) {ls0 : Array Slot} (hl : lv_has ls0 nL (T i0))
    (step : ∀ (i : Nat) (ls : Array Slot), i ≤ N → I i → lv_has ls nL (T i) → (∀ ls' : Array Slot, i < N → I (i + 1) → lv_has ls' nL (T (i + 1)) → W p l e R s m args below meth c H locs cells slots Q (F0 m pc ls' [])) → W p l e R s m args below meth c H locs cells slots Q (F0 m pc ls [])) :
    W p l e R s m args below meth c H locs cells slots Q (F0 m pc ls0 []) := by
  have key : ∀ (n i : Nat) (ls : Array Slot), i ≤ N → N + 1 ≤ i + n → I i → lv_has ls nL (T i) → W p l e R s m args below meth c H locs cells slots Q (F0 m pc ls []) := by
    intro n
    induction n with
    | zero => intro i ls h1 h2; exact absurd h2 (by omega)
    | succ n ih => intro i ls h1 h2 h3 h4; exact step i ls h1 h3 h4 (fun ls' hlt g3 g4 => ih (i + 1) ls' (by omega) (by omega) g3 g4)
  exact key (N + 1) i0 ls0 h0 (by omega) hI hl
/-- .. that write -/
theorem w_loopH {N : Nat} {T : Nat → List (Nat × Value)} {w : Nat → va_W} {A : Nat → Prop} {H0 : Heap} (i0 : Nat) (h0 : i0 ≤ N) {ls0 : Array Slot} (hl : lv_has ls0 nL (T i0)) (hP : va_P D cl (w i0) H) (hS : va_S A H0 H locs)
    (step : ∀ (i : Nat) (ls : Array Slot) (H : Heap) (locs : List Loc), i ≤ N → i0 ≤ i → lv_has ls nL (T i) → va_P D cl (w i) H → va_S A H0 H locs → (∀ (ls' : Array Slot) (H' : Heap) (locs' : List Loc), i < N → lv_has ls' nL (T (i + 1)) → va_P D cl (w (i + 1)) H' → va_S A H0 H' locs' → W p l e R s m args below meth c H' locs' cells slots Q (F0 m pc ls' [])) → W p l e R s m args below meth c H locs cells slots Q (F0 m pc ls [])) :
    W p l e R s m args below meth c H locs cells slots Q (F0 m pc ls0 []) := by
  have key : ∀ (n i : Nat) (ls : Array Slot) (H : Heap) (locs : List Loc), i ≤ N → i0 ≤ i → N + 1 ≤ i + n → lv_has ls nL (T i) → va_P D cl (w i) H → va_S A H0 H locs → W p l e R s m args below meth c H locs cells slots Q (F0 m pc ls []) := by
    intro n
    induction n with
    | zero => intro i ls H locs h1 h9 h2; exact absurd h2 (by omega)
    | succ n ih => intro i ls H locs h1 h9 h2 h4 h5 h6; exact step i ls H locs h1 h9 h4 h5 h6 (fun ls' H' locs' hlt g4 g5 g6 => ih (i + 1) ls' H' locs' (by omega) (by omega) (by omega) g4 g5 g6)
  exact key (N + 1) i0 ls0 H locs h0 (Nat.le_refl _) (by omega) hl hP hS
/-- .. and make cells -/
theorem w_loopHC {N : Nat} {T : Nat → List (Nat × Value)} {w : Nat → va_W} {A : Nat → Prop} {H0 : Heap} {cf sf : Nat → Nat} (i0 : Nat) (h0 : i0 ≤ N) {ls0 : Array Slot} (hl : lv_has ls0 nL (T i0)) (hP : va_P D cl (w i0) H) (hS : va_S A H0 H locs)
    (step : ∀ (i : Nat) (ls : Array Slot) (H : Heap) (locs : List Loc), i ≤ N → i0 ≤ i → lv_has ls nL (T i) → va_P D cl (w i) H → va_S A H0 H locs → (∀ (ls' : Array Slot) (H' : Heap) (locs' : List Loc), i < N → lv_has ls' nL (T (i + 1)) → va_P D cl (w (i + 1)) H' → va_S A H0 H' locs' → W p l e R s m args below meth c H' locs' (cf (i + 1)) (sf (i + 1)) Q (F0 m pc ls' [])) → W p l e R s m args below meth c H locs (cf i) (sf i) Q (F0 m pc ls [])) :
    W p l e R s m args below meth c H locs (cf i0) (sf i0) Q (F0 m pc ls0 []) := by
  have key : ∀ (n i : Nat) (ls : Array Slot) (H : Heap) (locs : List Loc), i ≤ N → i0 ≤ i → N + 1 ≤ i + n → lv_has ls nL (T i) → va_P D cl (w i) H → va_S A H0 H locs → W p l e R s m args below meth c H locs (cf i) (sf i) Q (F0 m pc ls []) := by
    intro n
    induction n with
    | zero => intro i ls H locs h1 h9 h2; exact absurd h2 (by omega)
    | succ n ih => intro i ls H locs h1 h9 h2 h4 h5 h6; exact step i ls H locs h1 h9 h4 h5 h6 (fun ls' H' locs' hlt g4 g5 g6 => ih (i + 1) ls' H' locs' (by omega) (by omega) (by omega) g4 g5 g6)
  exact key (N + 1) i0 ls0 H locs h0 (Nat.le_refl _) (by omega) hl hP hS
end CALLS
theorem ty_uniq {D : va_G} {cl : List vw_C} {tys : List (ClassId × FieldType)} {s : State} (hK : va_K D cl tys s) {i j : Nat} {a b : ClassId} (hi : tys[i]? = some (a, .int)) (hj : tys[j]? = some (b, .int)) : a = b := by
  have h1 : s.vm.findClass ("[" ++ FieldType.int.toString) = some a := (hK.2 i _ hi).2
  have h2 : s.vm.findClass ("[" ++ FieldType.int.toString) = some b := (hK.2 j _ hj).2
  exact Option.some.inj (h1.symm.trans h2)
/-! the worlds -/
abbrev tyA (cI cZ : ClassId) : List (ClassId × FieldType) := [(cI, .int), (cZ, .boolean)]
abbrev wXm (cI cZ : ClassId) (q : Nat → Nat) (tc nc ac : Nat) (ch : Int32) (U : Nat → Int32) (Z : Nat → Bool) (M B L F : Nat → Int32) : va_W :=
  [(q 0, .inr (0, [.int (nI tc), .int (nI nc), .ref (q 1), .ref (q 2), .ref (q 3), .int (nI ac), .ref (q 4), .ref (q 5), .ref (q 6), .int ch])), (q 1, .inl (cI, 40, .inl U)), (q 2, .inl (cZ, 40, .inl (fun j => bI (Z j)))), (q 3, .inl (cI, 256, .inl M)), (q 4, .inl (cI, 8, .inl B)), (q 5, .inl (cI, 8, .inl L)), (q 6, .inl (cI, 8, .inl F))]
abbrev wX (cI cZ : ClassId) (q : Nat → Nat) (tc nc ac : Nat) (ch : Int32) (U : Nat → Int32) (Z : Nat → Bool) (B L F : Nat → Int32) : va_W := wXm cI cZ q tc nc ac ch U Z (mis U Z nc) B L F
abbrev wM (cI cZ : ClassId) (r : Nat → Nat) (th : Int32) (tc nc ac : Nat) (ch : Int32) (U : Nat → Int32) (Z : Nat → Bool) (B L F : Nat → Int32) : va_W :=
  [(r 0, .inr (1, [.int th, .int (nI tc), .int (nI nc), .ref (r 1), .ref (r 2), .int (nI ac), .ref (r 3), .ref (r 4), .ref (r 5), .int ch])), (r 1, .inl (cI, 40, .inl U)), (r 2, .inl (cZ, 40, .inl (fun j => bI (Z j)))), (r 3, .inl (cI, 8, .inl F)), (r 4, .inl (cI, 8, .inl L)), (r 5, .inl (cI, 8, .inl B))]
end BASE
