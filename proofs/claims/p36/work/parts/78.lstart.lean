/-! ===== the law from its entry (begun from the starting text) ===== -/
/-! THE CLAIM OUT OF ONE WALK OF THE LAW'S BODY. Your part is whole_start (and what it stands on); all else here is the same for every law, but numbers. -/
def R_law : String := "SmudgedStarLaw"
def lw_P (b : Addr) (xs : List Int32) (args : Array Value) (s : State) : Prop := args = #[.ref b] ∧ s.IntsAt b xs ∧ xs.length ≤ 260 ∧ (Jvm.Cond.and given_1 narrow_1).before args s = true
/-- what a walk over the start with the record d0 says of its end, said of the start itself -/
theorem lw_closed {s t : State} {o : Outcome} {d0 : Drawn} {L : List Loc} {k n : Nat} (hd0 : s.drawn.sameBut d0 lw_cs) (hv : ∃ v, o = .returned v) (hW : (s.setDrawn d0).WarmedH t.vm) (hs : (s.setDrawn d0).sameButNew ({ t with vm := s.vm } : State) L k n) : State.butDraws s t lw_cs (fun t1 => Framed s o t1 L k n) := by
  have h2 : t.drawn = d0 := congrArg State.drawn hs.1
  refine ⟨⟨hv, hW, State.sameButNew.setDrawn hs s.drawn⟩, ?_, by decide⟩
  rw [h2]
  exact hd0
def lw_Q (_ : Array Value) (s : State) (o : Outcome) (t : State) : Prop := o = .returned (some (.int 1)) ∧ State.butDraws s t lw_cs (fun t1 => Framed s o t1 [] 600172 7300668)
def lw_Z (below : List Frame) (a : Array Value) (s : State) : State → Prop := fun t => ∃ o, t.status = .running ∧ Ended t below o ∧ lw_Q a s o t
/-- the law's own end, with 1 on the stack, nothing written that was there before, its room as the claim has it; d0: the record of draws at this point (at the entry s.drawn: begin with 'refine W.base ?_' and 'have hd0 := Drawn.sameBut.refl s.drawn lw_cs') -/
theorem lw_ret {p : Program} {l : Launch} {e : Env} {s : State} {m : MethodId} {below : List Frame} {meth : Method} {c : Code} {b : Nat} {d0 : Drawn} (hd0 : s.drawn.sameBut d0 lw_cs) (hx : p.tables.exec = Jvm.exec) (hb : c.code = code) (hr : meth.sig.returnType = ret) (hlocks : meth.locks = false) {pc : Nat} {H : Heap} {ls : Array Slot} (hdg : decode code pc = .ok (.ireturn, 1)) : W p l e room_1 (s.setDrawn d0) m #[Value.ref b] below meth c H [] 600172 7300668 (lw_Z below #[Value.ref b] s) (F0 m pc ls [.int 1]) := by
  intro T hT X
  obtain ⟨fs, hret, hrun, hended, hW, hframe⟩ := X.leave (v := some (.int 1)) (hlocks := hlocks) (fun h => by rw [hr] at h; cases h)
  have hmeth' : T.vm.method? m = some meth := X.method'
  refine ⟨T.setFrames fs, ?_, .returned (some (.int 1)), hrun, hended, rfl, lw_closed hd0 ⟨_, rfl⟩ hW hframe⟩
  jvm_step X.here [X.here.top, hx, hb, hdg, hmeth', hr, ret, narrow_b1]
  (try refine ⟨rfl, ?_⟩); (try refine ⟨rfl, ?_⟩)
  first | (intro acts; rw [hret _ acts rfl rfl rfl]) | rw [hret _ _ rfl rfl rfl]
  exact Steps.refl _
/-- what holds at the law's entry: the machine, the code, the tables' words (any of lw_tbl by 'hts w (by decide +kernel)'), the script of L ints xs at the cell b, what the Statement gives of the start (any of its parts by flat_of_before) -/
def lw_At (p : Program) (s : State) (m : MethodId) (meth : Method) (c : Code) (b L : Nat) (xs : Nat → Int32) : Prop :=
  p.tables.exec = Jvm.exec ∧ c.code = code ∧ meth.sig.returnType = ret ∧ c.maxLocals = 28 ∧ s.vm.findClass R_law = some m.cls ∧ (∀ w ∈ lw_tbl, w.before #[Value.ref b] s = true) ∧ va_X b L xs s s.heap ∧ b < s.heap.size ∧ meth.locks = false ∧ (Jvm.Cond.and given_1 narrow_1).before #[Value.ref b] s = true
set_option maxHeartbeats 4000000 in
set_option maxRecDepth 100000 in
theorem whole_start {p : Program} {e : Env} {s : State} {m : MethodId} {below : List Frame} {meth : Method} {c : Code} (l : Launch) (hflags : l.flags = flags0) {b L : Nat} {xs : Nat → Int32} (hL : L ≤ 260) (C0 : lw_At p s m meth c b L xs) : W p l e room_1 s m #[Value.ref b] below meth c s.heap [] 0 0 (lw_Z below #[Value.ref b] s) (entryFrame m ([Value.ref b] : List Value).toArray 28) := by
  obtain ⟨hx, hb, hr, hml, hown, hts, hX, hbl, hlocks, hgv⟩ := id C0
  have hb : c.code = cL_law := hb
  have hown : s.vm.findClass RL = some m.cls := hown
  have hw : ∀ w ∈ wsL_law, w.before #[Value.ref b] s = true := fun w h => hts w (wsL_law_in w h)
  have hov : ov s := over_moved (Vm.Alike.refl s.vm) (hts (.arrayOver arrO) (List.mem_of_getElem? (i := 414) rfl))
  have hnst : nst s := va_Nw.of rfl (hts (.methodLinkNest RL 61 yX1_init RL) (List.mem_of_getElem? (i := 521) rfl))
  have hA : ∀ q : Nat, s.heap.size ≤ q → lA s q := fun _ h => h
  obtain ⟨c0, iS0, hKn0⟩ := u_known (C := RX0) (T := TX0) (N := 10) (n := 10) hw inlX0 (hw (.instantiable RX0 10) (List.mem_of_getElem? (i := 1) rfl))
  obtain ⟨c1, iS1, hKn1⟩ := u_known (C := RX1) (T := TX1) (N := 4) (n := 4) hw inlX1 (hw (.instantiable RX1 4) (List.mem_of_getElem? (i := 30) rfl))
  obtain ⟨D, hKc⟩ : ∃ (D : va_G), ∀ (k : Nat) (q : vw_C), vwCl[k]? = some q → u_Kn s q.1 q.2.1 q.2.2 (D.1 k) (D.2 k) := by
    refine ⟨(fun k => if k = 0 then c0 else c1, fun k => if k = 0 then iS0 else iS1), ?_⟩
    intro k q hq
    match k, hq with
    | 0, hq => cases hq; exact hKn0
    | 1, hq => cases hq; exact hKn1
    | k + 2, hq => simp [vwCl] at hq
  have hS : va_S (lA s) s.heap s.heap [] := va_S.rf
  have hK : va_K D vwCl [] s := ⟨hKc, fun k q h => by simp at h⟩
  have hP : va_P D vwCl [] s.heap := fun k q h => by simp at h
  have hD : va_D (lA s) [] := ⟨fun i j p q h => by simp at h, fun k q h => by simp at h⟩
  obtain ⟨comp, cR, kA, -, -, f3, f4, f5⟩ := arrayOverA_spec hov
  have hKR : va_K D vwCl [(cR, arrO)] s := ⟨hKc, fun k q h => by
    have h1 := (List.getElem?_eq_some_iff.mp h).1
    simp only [List.length_cons, List.length_nil] at h1
    rw [show k = 0 by omega] at h
    cases h
    exact ⟨fun N z => ⟨(fun k h => by cases h), kA, f3, comp, f4⟩, f5⟩⟩
  have hl := lv_entry ([.ref b]) (n := 28) (Nat.le_of_ble_eq_true rfl)
  rw [lg_entry_eq]
  generalize (lg_sl ([.ref b]) ++ List.replicate (28 - (lg_sl ([.ref b])).length) Slot.unset).toArray = ls at hl ⊢
  have hl : lv_has ls 28 [(0, .ref b)] := hl
  refine va_new (D := D) (cl := vwCl) (ci := 0) (fs := [.int 0, .int 0, .null, .null, .null, .int 0, .null, .null, .null, .int 0]) (C := RX0) (T := TX0) (N := 10) hx hb hw inlX0 tyX0 tyX0_ok hown (hw (.classLink RL 26 RX0) (List.mem_of_getElem? (i := 0) rfl)) (hw (.instantiable RX0 10) (List.mem_of_getElem? (i := 1) rfl)) (hw (.initialized RX0) (List.mem_of_getElem? (i := 2) rfl)) hK hP hD hS hA rfl (fun j hj => by rcases (show j = 0 ∨ j = 1 ∨ j = 2 ∨ j = 3 ∨ j = 4 ∨ j = 5 ∨ j = 6 ∨ j = 7 ∨ j = 8 ∨ j = 9 by omega) with rfl | rfl | rfl | rfl | rfl | rfl | rfl | rfl | rfl | rfl <;> rfl) (Nat.le_of_ble_eq_true rfl) (Nat.le_of_ble_eq_true rfl) dL_law_0 (fun h0 H hP hD hS => ?_)
  have hP : va_P D vwCl [(h0, .inr (0, [.int 0, .int 0, .null, .null, .null, .int 0, .null, .null, .null, .int 0]))] H := hP
  have hD : va_D (lA s) [(h0, .inr (0, [.int 0, .int 0, .null, .null, .null, .int 0, .null, .null, .null, .int 0]))] := hD
  refine lv_dup hx hb dL_law_3 rfl ?_
  have hFc := va_free (wc := [(h0, .inr (0, [.int 0, .int 0, .null, .null, .null, .int 0, .null, .null, .null, .int 0]))]) hD hS hA [0] rfl
  refine va_callv (va_runI (As := []) (rest := [.ref h0]) ⟨hx, hb, hml, hown, hw⟩ (w_X_init l hP (hD.weaken (fun _ _ _ _ => trivial))) (cwI 0 hw gL_law_X0_init rfl rfl rfl (hw (.initialized RX0) (List.mem_of_getElem? (i := 2) rfl)) (hw (.methodLink RL 66 yX0_init) (List.mem_of_getElem? (i := 8) rfl)) (hw (.instanceMethod yX0_init) (List.mem_of_getElem? (i := 9) rfl)) rfl (by decide +kernel) ⟨Nat.le_of_ble_eq_true rfl, Nat.le_of_ble_eq_true rfl⟩) ⟨rd_blind, rd_pre hK⟩ rfl rfl hl.1 rfl (lv_room (Nat.le_of_ble_eq_true rfl)) dL_law_4 ⟨Nat.le_of_ble_eq_true rfl, Nat.le_of_ble_eq_true rfl⟩) hS (fun q _ h => hFc q h) hFc (fun u t H1 locs ht hvm hw9 hB hz1 hk1 hS => ?_)
  obtain ⟨q, cI, cZ, hq0, hP1, hK1, hD1⟩ := hB
  subst hq0
  rw [ht] at hP1
  have hK1 : va_K D vwCl (tyA cI cZ) s := va_K.moved hvm.symm hK1
  have hKL : va_K D vwCl (tyL cI cZ cR) s := hK1.app hKR
  obtain ⟨hP, hD⟩ := va_join (wr := []) (w1 := wX cI cZ q 0 0 0 0 (fun _ => 0) (fun _ => false) (fun _ => 0) (fun _ => 0) (fun _ => 0)) hP hD [0] [] rfl rfl (by decide) (by decide) hk1 hFc hP1 hD1
  have hP : va_P D vwCl (wX cI cZ q 0 0 0 0 (fun _ => 0) (fun _ => false) (fun _ => 0) (fun _ => 0) (fun _ => 0)) H1 := hP
  have hD : va_D (lA s) (wX cI cZ q 0 0 0 0 (fun _ => 0) (fun _ => false) (fun _ => 0) (fun _ => 0) (fun _ => 0)) := hD
  clear hP1 hk1 hz1 hFc hD1
  generalize H1 = H at hP hS ⊢
  refine lv_astore_n (lv' := [(1, .ref (q 0)), (0, .ref b)]) hx hb dL_law_7 rfl hl (by decide) rfl (fun ls hl => ?_)
  refine lv_aload_n hx hb dL_law_8 rfl (lv_at hl 0 rfl) ?_
  refine lv_aload_n hx hb dL_law_9 rfl (lv_at hl 1 rfl) ?_
  have hXc : va_X b L xs s H := hX.kept (hS.2.1 b hbl (Nat.not_le.mpr hbl))
  have hbH : b < H.size := Nat.lt_of_lt_of_le hbl hS.1
  have hFr := va_free_all hD hS hA
  have hbX : ¬ va_A (wX cI cZ q 0 0 0 0 (fun _ => 0) (fun _ => false) (fun _ => 0) (fun _ => 0) (fun _ => 0)) H.size b := fun h => by
    rcases h with ⟨k, e, h⟩ | h
    · exact absurd (hD.2 k (b, e) h) (Nat.not_le.mpr hbl)
    · exact absurd hbH (Nat.not_lt.mpr h)
  refine va_callr (va_runS (As := [.ref (q 0), .ref b]) (rest := []) ⟨hx, hb, hml, hown, hw⟩ (w_L_build l hP (hD.weaken (fun _ _ _ _ => trivial)) (by omega) hbH hbX) (va_cwS 2 hw gL_law_L_build rfl rfl rfl hdL_build ⟨Nat.le_of_ble_eq_true rfl, Nat.le_of_ble_eq_true rfl⟩) ⟨rdX_blind, rdX_pre hKL hov hXc hnst⟩ rfl rfl hl.1 rfl (lv_room (Nat.le_of_ble_eq_true rfl)) dL_law_10 ⟨Nat.le_of_ble_eq_true rfl, Nat.le_of_ble_eq_true rfl⟩) hS (fun z _ h => hFr z h) hFr (fun u r0 t9 H1 locs ht9 hvm9 hw9 hB9 hz1 hk1 hS => ?_)
  rw [ht9] at hB9
  have hXS := XS.weaken hB9 hFr
  clear hB9 hk1 hz1 hXc hbH hbX
  generalize H1 = H at hXS hS ⊢
  refine lv_astore_n (lv' := [(2, .ref r0), (1, .ref (q 0)), (0, .ref b)]) hx hb dL_law_13 rfl hl (by decide) rfl (fun ls hl => ?_)
  refine lv_aload_n hx hb dL_law_14 rfl (lv_at hl 0 rfl) ?_
  refine lv_ifnonnull (tgt := 20) hx hb dL_law_15 (by decide) ?_
  refine lv_iconst (v := 0) hx hb dL_law_20 (by decide) ?_
  refine lv_cst (y := nI 0) nI_0.symm ?_
  refine lv_istore_n (lv' := [(3, .int (nI 0)), (2, .ref r0), (1, .ref (q 0)), (0, .ref b)]) hx hb dL_law_21 rfl hl (by decide) rfl (fun ls hl => ?_)
  have C : LC l p s m c b L xs D cI cZ cR := ⟨hx, hb, hml, hown, hw, hX, hbl, hL, hKL, hov, hnst⟩
  refine W.widen (k := 4000) (n := 800000) (by decide) (by decide) ?_
  refine law_loop l C (fun cells slots H locs ls hc hs hXS hS hl => ?_) 8 0 4000 800000 H _ ls (by decide) (by decide) (by decide) hXS hS hl
  obtain ⟨tc, nc, ac, ch, U, Z, B, L9, F, r, nr, ar, hr0, hG, hP, hD⟩ := hXS
  subst hr0
  obtain ⟨⟨htc1, htc⟩, hnc, hac, hU, hB, hL9, hF9⟩ := id hG
  have hK : va_K D vwCl (tyS cI cR) s := hKL.sub [0, 2] rfl
  refine lv_aload_n hx hb dL_law_1189 rfl (lv_at hl 1 rfl) ?_
  refine lv_aload_n hx hb dL_law_1190 rfl (lv_at hl 2 rfl) ?_
  have hF : ∀ z : Nat, H.size ≤ z → lA s z := fun z h => Nat.le_trans hS.1 h
  refine va_calli (va_runV (As := [.ref (q 0)]) (rest := []) ⟨hx, hb, hml, hown, hw⟩ (w_S_isSame l (P_l hP) (P_r hP) htc hnc hac hU hB) (cwV 1 hw gL_law_X1_isSame rfl rfl rfl hdX1_isSame ⟨Nat.le_of_ble_eq_true rfl, Nat.le_of_ble_eq_true rfl⟩) ⟨rd_blind, (va_recv hK (P_r hP) (ci := 1) (q0 := 0) rfl rfl), rd_pre hKL⟩ rfl rfl hl.1 rfl (lv_room (Nat.le_of_ble_eq_true rfl)) dL_law_1191 ⟨by show cells + 257 ≤ 600172; omega, by show slots + 65536 ≤ 7300668; omega⟩) hS (fun z _ h => hF z h) hF (fun r9 u t9 H1 locs ht9 hvm9 hw9 hB9 hz1 hk1 hS => ?_)
  subst hw9
  refine va_forget (fun q hq => hS.2.2 q hq) ?_
  refine W.widen (k := 600172) (n := 7300668) (by omega) (by omega) ?_
  exact lw_ret (d0 := s.drawn) (Drawn.sameBut.refl s.drawn lw_cs) hx hb hr hlocks dL_law_1194
