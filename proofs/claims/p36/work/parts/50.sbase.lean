/-! ===== the hand-made quarrel: its cells, rows for arrays of arrays ===== -/
abbrev arrO : FieldType := .array .int
abbrev ov (U : State) : Prop := (Cond.arrayOver arrO).before #[] U = true
theorem ov_go {s U : State} (hvm : s.vm.Alike U.vm) (h : ov s) : ov U := over_moved hvm h
theorem ov_any {s : State} {a : Array Value} (h : ov s) : (Cond.arrayOver arrO).before a s = true := over_moved (Vm.Alike.refl s.vm) h
abbrev rdo (D : va_G) (cl : List vw_C) (tys : List (ClassId × FieldType)) (H : Heap) : State → Prop := fun U => U.heap = H ∧ va_K D cl tys U ∧ ov U
theorem rdo_blind {D : va_G} {cl : List vw_C} {tys : List (ClassId × FieldType)} {H : Heap} {av : List Value} : FrameBlind (va_Pc av (rdo D cl tys H)) := by
  intro a U g mk q
  obtain ⟨q1, q2, q3, q4⟩ := q
  exact ⟨q1, q2, va_K.moved (u := U) (U := U.calling g mk a) (Vm.Alike.refl U.vm) q3, ov_go (s := U) (U := U.calling g mk a) (Vm.Alike.refl U.vm) q4⟩
abbrev tyS (cI cR : ClassId) : List (ClassId × FieldType) := [(cI, .int), (cR, arrO)]
abbrev rq (g : Nat → Option Nat) : (Nat → Int32) ⊕ (Nat → Int64) ⊕ (Nat → UInt32) ⊕ (Nat → UInt64) ⊕ (Nat → Option Nat) := .inr (.inr (.inr (.inr g)))
abbrev rf (f : Nat → Nat) : (Nat → Int32) ⊕ (Nat → Int64) ⊕ (Nat → UInt32) ⊕ (Nat → UInt64) ⊕ (Nat → Option Nat) := rq (fun j => some (f j))
def r2 (u z : Int32) : Nat → Int32 := fun i => if i = 0 then u else z
def r3 (b v f : Int32) : Nat → Int32 := fun i => if i = 0 then b else if i = 1 then v else f
abbrev wN (cI : ClassId) (nr : Nat → Nat) (U : Nat → Int32) (Z : Nat → Bool) (n : Nat) : va_W := (List.range n).map (fun j => (nr j, .inl (cI, 2, .inl (r2 (U j) (bI (Z j))))))
abbrev wA (cI : ClassId) (ar : Nat → Nat) (B L F : Nat → Int32) (n : Nat) : va_W := (List.range n).map (fun a => (ar a, .inl (cI, 3, .inl (r3 (B a) (L a) (F a)))))
abbrev wS (cI cR : ClassId) (r nr ar : Nat → Nat) (tc nc ac : Nat) (ch : Int32) (U : Nat → Int32) (Z : Nat → Bool) (B L F : Nat → Int32) : va_W :=
  (r 0, .inr (1, [.int (nI tc), .ref (r 1), .ref (r 2), .int ch])) :: (r 1, .inl (cR, nc, rf nr)) :: (r 2, .inl (cR, ac, rf ar)) :: (wN cI nr U Z nc ++ wA cI ar B L F ac)
section SAT
variable {cI cR : ClassId} {r nr ar : Nat → Nat} {tc nc ac : Nat} {ch : Int32} {U : Nat → Int32} {Z : Nat → Bool} {B L F : Nat → Int32}
theorem wN_len {n : Nat} : (wN cI nr U Z n).length = n := by simp [wN]
theorem wA_len {n : Nat} : (wA cI ar B L F n).length = n := by simp [wA]
theorem wS_len : (wS cI cR r nr ar tc nc ac ch U Z B L F).length = 3 + nc + ac := by
  simp only [wS, List.length_cons, List.length_append, wN_len, wA_len]; omega
theorem wN_at {n j : Nat} (h : j < n) : (wN cI nr U Z n)[j]? = some (nr j, .inl (cI, 2, .inl (r2 (U j) (bI (Z j))))) := by
  unfold wN
  rw [List.getElem?_map, List.getElem?_range h]; rfl
theorem wA_at {n a : Nat} (h : a < n) : (wA cI ar B L F n)[a]? = some (ar a, .inl (cI, 3, .inl (r3 (B a) (L a) (F a)))) := by
  unfold wA
  rw [List.getElem?_map, List.getElem?_range h]; rfl
theorem wS_tl (k : Nat) : (wS cI cR r nr ar tc nc ac ch U Z B L F)[3 + k]? = (wN cI nr U Z nc ++ wA cI ar B L F ac)[k]? := by
  rw [Nat.add_comm]
  rfl
theorem wS_n {j : Nat} (h : j < nc) : (wS cI cR r nr ar tc nc ac ch U Z B L F)[3 + j]? = some (nr j, .inl (cI, 2, .inl (r2 (U j) (bI (Z j))))) := by
  rw [wS_tl, List.getElem?_append_left (by rw [wN_len]; exact h), wN_at h]
theorem wS_a {a : Nat} (h : a < ac) : (wS cI cR r nr ar tc nc ac ch U Z B L F)[3 + (nc + a)]? = some (ar a, .inl (cI, 3, .inl (r3 (B a) (L a) (F a)))) := by
  rw [wS_tl, List.getElem?_append_right (by rw [wN_len]; omega), wN_len, Nat.add_sub_cancel_left, wA_at h]
/-- each cell of it by its place -/
theorem wS_inv {k : Nat} {q : Nat × va_E} (h : (wS cI cR r nr ar tc nc ac ch U Z B L F)[k]? = some q) :
    (k = 0 ∧ q = (r 0, .inr (1, [.int (nI tc), .ref (r 1), .ref (r 2), .int ch]))) ∨ (k = 1 ∧ q = (r 1, .inl (cR, nc, rf nr))) ∨ (k = 2 ∧ q = (r 2, .inl (cR, ac, rf ar))) ∨ (∃ j, j < nc ∧ k = 3 + j ∧ q = (nr j, .inl (cI, 2, .inl (r2 (U j) (bI (Z j)))))) ∨ (∃ a, a < ac ∧ k = 3 + (nc + a) ∧ q = (ar a, .inl (cI, 3, .inl (r3 (B a) (L a) (F a))))) := by
  have hk : k < 3 + nc + ac := by
    have h1 := (List.getElem?_eq_some_iff.mp h).1
    rw [wS_len] at h1
    exact h1
  rcases (show k = 0 ∨ k = 1 ∨ k = 2 ∨ 3 ≤ k by omega) with rfl | rfl | rfl | h3
  · exact Or.inl ⟨rfl, (Option.some.inj h).symm⟩
  · exact Or.inr (Or.inl ⟨rfl, (Option.some.inj h).symm⟩)
  · exact Or.inr (Or.inr (Or.inl ⟨rfl, (Option.some.inj h).symm⟩))
  · rcases Nat.lt_or_ge (k - 3) nc with h4 | h4
    · obtain ⟨j, rfl⟩ : ∃ j, k = 3 + j := ⟨k - 3, by omega⟩
      have hj : j < nc := by omega
      rw [wS_n hj] at h
      exact Or.inr (Or.inr (Or.inr (Or.inl ⟨j, hj, rfl, (Option.some.inj h).symm⟩)))
    · obtain ⟨a, rfl⟩ : ∃ a, k = 3 + (nc + a) := ⟨k - 3 - nc, by omega⟩
      have ha : a < ac := by omega
      rw [wS_a ha] at h
      exact Or.inr (Or.inr (Or.inr (Or.inr ⟨a, ha, rfl, (Option.some.inj h).symm⟩)))
end SAT
theorem D_push {A : Nat → Prop} {D : va_G} {cl : List vw_C} {w : va_W} {H : Heap} {a : Nat} {e : va_E} (hD : va_D A w) (hP : va_P D cl w H) (ha : H.size ≤ a) (hA : A a) : va_D A (w ++ [(a, e)]) := by
  refine hD.app ⟨fun i j x y hi hj hxy => ?_, fun k q hk => ?_⟩ (fun i j x y hi hj hxy => ?_)
  · have h1 := (List.getElem?_eq_some_iff.mp hi).1
    have h2 := (List.getElem?_eq_some_iff.mp hj).1
    simp only [List.length_cons, List.length_nil] at h1 h2
    omega
  · have h1 := (List.getElem?_eq_some_iff.mp hk).1
    simp only [List.length_cons, List.length_nil] at h1
    have h0 : k = 0 := by omega
    subst h0
    cases hk
    exact hA
  · have h1 := (List.getElem?_eq_some_iff.mp hj).1
    simp only [List.length_cons, List.length_nil] at h1
    have h0 : j = 0 := by omega
    subst h0
    cases hj
    have h2 := (hP i x hi).lt
    have h3 : x.1 = a := hxy
    omega
theorem refs_cong {cA : ClassId} {n : Nat} {f g : Nat → Option Nat} (h : ∀ j, j < n → f j = g j) : vp_cell cA (n, rq f) = vp_cell cA (n, rq g) := by
  rw [vp_cell_q, vp_cell_q]
  unfold arrV
  congr 2
  funext j
  show va_rf (f j.val) = va_rf (g j.val)
  rw [h j.val j.isLt]
theorem assign_self (vm : Vm) (c : ClassId) : vm.assignable c c = true := by
  show Vm.assignableAux vm (255 + 1) c c = true
  rw [Vm.assignableAux, beq_self_eq_true, Bool.true_or]
section SROWS
variable {p : Program} {l : Launch} {e : Env} {R : Room} {s : State} {m : MethodId} {args : Array Value} {below : List Frame} {meth : Method} {c : Code} {H : Heap} {locs : List Loc} {cells slots : Nat} {Q : State → Prop}
variable {cc bytes : ByteArray} {pc nL maxL n index : Nat} {ls : Array Slot} {rest st0 As : List Value} {ret : Option FieldType} {ws : List Cond} {rm : Room} {own C : String} {b : Addr} {Ts : List Cond} {y : MethodName} {D : va_G} {cl : List vw_C} {tys : List (ClassId × FieldType)}
theorem rdo_pre {av : List Value} (hK : va_K D cl tys s) (hov : ov s) : ∀ U : State, U.heap = H → s.WarmedH U.vm → va_Pc av (rdo D cl tys H) av.toArray U := fun U hU hW => ⟨rfl, hU, va_K.moved hW.alike hK, ov_go hW.alike hov⟩
/-- an element of an array of arrays -/
theorem ra_ld (hx : p.tables.exec = Jvm.exec) (hb : c.code = cc) {w : va_W} {a : Nat} (hK : va_K D cl tys s) (hP : va_P D cl w H) (q0 t0 : Nat) {cA : ClassId} {n : Nat} {g : Nat → Option Nat} (ha : w[q0]? = some (a, .inl (cA, n, rq g))) (ht : tys[t0]? = some (cA, arrO)) {j v : Nat} (hv : g j = some v) (hj : j < n) (hn : n ≤ 256) (hdg : decode cc pc = .ok (.aaload, 1))
    (kk : W p l e R s m args below meth c H locs cells slots Q (F0 m (pc + 1) ls (.ref v :: rest))) : W p l e R s m args below meth c H locs cells slots Q (F0 m pc ls (.int (nI j) :: .ref a :: rest)) := by
  have hin : vp_in (nI j) n := vp_in_nI hj (by omega)
  have hcl : (nI j).toNatClampNeg = j := nI_clamp (by omega)
  exact W.aald (v := .ref v) (ty := arrO) hx hb (hP q0 _ ha) ((hK.2 t0 _ ht).1 n (fun j => va_rf (g j))) rfl (fun q => by cases q) (by show ¬ (nI j < 0 ∨ (arrV _ _ _).slots.size ≤ _); rw [arrV_size]; exact hin) (by show (arrV _ _ _).slots[_]? = _; rw [hcl, arrV_read _ _ hj, hv]; rfl) rfl rfl hdg kk
/-- .. is written -/
theorem ra_st (hx : p.tables.exec = Jvm.exec) (hb : c.code = cc) (hov : ov s) {w : va_W} {a : Nat} {A : Nat → Prop} {H0 : Heap} (hK : va_K D cl tys s) (hP : va_P D cl w H) (hD : va_D A w) (hS : va_S A H0 H locs) (q0 t0 ti : Nat) {cA cI : ClassId} {n nv : Nat} {g : Nat → Option Nat} {f : Nat → Int32} (ha : w[q0]? = some (a, .inl (cA, n, rq g))) (ht : tys[t0]? = some (cA, arrO)) (hti : tys[ti]? = some (cI, .int)) {j v : Nat} (hv : H[v]? = some (vp_cell cI (nv, .inl f))) (hj : j < n) (hn : n ≤ 256) (hdg : decode cc pc = .ok (.aastore, 1))
    (kk : ∀ (H1 : Heap) (locs1 : List Loc), va_P D cl (w.set q0 (a, .inl (cA, n, rq (va_up g j (some v))))) H1 → va_D A (w.set q0 (a, .inl (cA, n, rq (va_up g j (some v))))) → va_S A H0 H1 locs1 → W p l e R s m args below meth c H1 locs1 cells slots Q (F0 m (pc + 1) ls rest)) : W p l e R s m args below meth c H locs cells slots Q (F0 m pc ls (.ref v :: .int (nI j) :: .ref a :: rest)) := by
  have hcl : (nI j).toNatClampNeg = j := nI_clamp (by omega)
  obtain ⟨comp, cR, kA, h1, -, h3, h4, h5⟩ := arrayOverA_spec hov
  have e1 : s.vm.findClass ("[" ++ FieldType.int.toString) = some cI := (hK.2 ti _ hti).2
  have e2 : comp = cI := Option.some.inj (h1.symm.trans e1)
  have e3 : s.vm.findClass ("[" ++ arrO.toString) = some cA := (hK.2 t0 _ ht).2
  have e4 : cR = cA := Option.some.inj (h5.symm.trans e3)
  subst e2
  subst e4
  obtain ⟨kC, hkC, -⟩ := Vm.findClass_spec h1
  refine W.aast hx hb (hP q0 _ ha) (fun q h => by cases h) (fun h => by cases h) h3 h4 rfl hkC ⟨nI_pos (by omega), by show _ < (arrV _ _ _).slots.size; rw [arrV_size, hcl]; exact hj⟩ hv (fun q h => by cases h) hkC (assign_self _ _) rfl rfl hdg fun H1 e z oq => ?_
  refine kk H1 _ (hP.set hD ha ?_ oq) (hD.set ha) (hS.put z oq (hD.2 q0 _ ha))
  show H1[a]? = some (vp_cell _ _)
  rw [e, hcl]
  rw [vp_cell_q, vp_cell_q, arrV_store]
  congr 2
  funext q
  by_cases hq : q = j
  · subst hq
    simp [updV, va_up, va_rf]
  · simp [updV, va_up, hq]
/-- .. is made -/
theorem ra_new (hx : p.tables.exec = Jvm.exec) (hb : c.code = cc) (hown : s.vm.findClass own = some m.cls) (hclink : (Cond.classLink own index "[I").before args s = true) (hov : ov s) {w : va_W} {A : Nat → Prop} {H0 : Heap} (hK : va_K D cl tys s) (hP : va_P D cl w H) (hD : va_D A w) (hS : va_S A H0 H locs) (hA : ∀ q, H0.size ≤ q → A q) (t0 : Nat) {cR : ClassId} (ht : tys[t0]? = some (cR, arrO))
    {x : Int32} {n : Nat} (hxn : x = nI n) (hn : n ≤ 256) (hcells : cells + 1 ≤ R.cells) (hslots : slots + n ≤ R.slots) (hdg : decode cc pc = .ok (.anewarray index, 3))
    (kk : ∀ (q : Nat) (H1 : Heap), H.size ≤ q → va_P D cl (w ++ [(q, .inl (cR, n, rq (fun _ => none)))]) H1 → va_D A (w ++ [(q, .inl (cR, n, rq (fun _ => none)))]) → va_S A H0 H1 locs → (∀ z : Nat, z < H.size → H1[z]? = H[z]?) →
      W p l e R s m args below meth c H1 locs (cells + 1) (slots + n) Q (F0 m (pc + 3) ls (.ref q :: rest))) : W p l e R s m args below meth c H locs cells slots Q (F0 m pc ls (.int x :: rest)) := by
  subst hxn
  have hcl : (nI n).toNatClampNeg = n := nI_clamp (by omega)
  have e3 : s.vm.findClass ("[" ++ arrO.toString) = some cR := (hK.2 t0 _ ht).2
  refine W.anewA (t := .int) hx hb hown hclink (ov_any hov) rfl hdg rfl (nI_pos (by omega)) (by rw [hcl]; omega) hcells (by rw [hcl]; exact hslots) fun cA kA comp f1 f2 f3 f4 => ?_
  rw [hcl]
  have e4 : cA = cR := Option.some.inj (f1.symm.trans e3)
  subst e4
  generalize hH1 : H.push ({ cls := cA, slots := Array.replicate n .null, vm := .none } : Cell) = H1
  have z1 : H1.size = H.size + 1 := by rw [← hH1, Array.size_push]
  have e1 : H1[H.size]? = some (arrV cA n (fun _ => .null)) := by rw [← hH1, Array.getElem?_push_size, ← arrV_new]
  have o1 : ∀ q : Nat, q < H.size → H1[q]? = H[q]? := fun q hq => by rw [← hH1, Array.getElem?_push, if_neg (Nat.ne_of_lt hq)]
  refine kk H.size H1 (Nat.le_refl _) ((hP.kept (fun k x hx => o1 x.1 ((hP k x hx).lt))).app (fun k x hx => ?_)) (hD.push hP rfl (hA _ hS.1)) ⟨Nat.le_trans hS.1 (by omega), fun x h1 h2 => (o1 x (Nat.lt_of_lt_of_le h1 hS.1)).trans (hS.2.1 x h1 h2), hS.2.2⟩ o1
  have hz : k < 1 := (List.getElem?_eq_some_iff.mp hx).1
  rw [show k = 0 by omega] at hx
  cases hx
  show H1[H.size]? = some (vp_cell _ _)
  rw [vp_cell_q]
  exact e1
/-- any loop -/
theorem w_loopG {N : Nat} {I : Nat → Array Slot → Heap → List Loc → Prop} {cf sf : Nat → Nat} (i0 : Nat) (h0 : i0 ≤ N) {ls0 : Array Slot} (hI : I i0 ls0 H locs)
    (step : ∀ (i : Nat) (ls : Array Slot) (H : Heap) (locs : List Loc), i ≤ N → i0 ≤ i → I i ls H locs → (∀ (ls' : Array Slot) (H' : Heap) (locs' : List Loc), i < N → I (i + 1) ls' H' locs' → W p l e R s m args below meth c H' locs' (cf (i + 1)) (sf (i + 1)) Q (F0 m pc ls' [])) → W p l e R s m args below meth c H locs (cf i) (sf i) Q (F0 m pc ls [])) :
    W p l e R s m args below meth c H locs (cf i0) (sf i0) Q (F0 m pc ls0 []) := by
  have key : ∀ (n i : Nat) (ls : Array Slot) (H : Heap) (locs : List Loc), i ≤ N → i0 ≤ i → N + 1 ≤ i + n → I i ls H locs → W p l e R s m args below meth c H locs (cf i) (sf i) Q (F0 m pc ls []) := by
    intro n
    induction n with
    | zero => intro i ls H locs h1 h9 h2; exact absurd h2 (by omega)
    | succ n ih => intro i ls H locs h1 h9 h2 h4; exact step i ls H locs h1 h9 h4 (fun ls' H' locs' hlt g4 => ih (i + 1) ls' H' locs' (by omega) (by omega) (by omega) g4)
  exact key (N + 1) i0 ls0 H locs h0 (Nat.le_refl _) (by omega) hI
section SR
variable {cI cR : ClassId} {r nr ar : Nat → Nat} {tc nc ac : Nat} {ch : Int32} {U : Nat → Int32} {Z : Nat → Bool} {B L F : Nat → Int32}
/-- a night's two places, an astronomer's three -/
theorem rn_0 (hx : p.tables.exec = Jvm.exec) (hb : c.code = cc) (hK : va_K D cl (tyS cI cR) s) (hP : va_P D cl (wS cI cR r nr ar tc nc ac ch U Z B L F) H) {j : Nat} (hj : j < nc) (hdg : decode cc pc = .ok (.iaload, 1))
    (kk : W p l e R s m args below meth c H locs cells slots Q (F0 m (pc + 1) ls (.int (U j) :: rest))) : W p l e R s m args below meth c H locs cells slots Q (F0 m pc ls (.int 0 :: .ref (nr j) :: rest)) := by
  have h := ia_ld (j := 0) (rest := rest) (ls := ls) (pc := pc) (p := p) (l := l) (e := e) (R := R) (m := m) (args := args) (below := below) (meth := meth) (locs := locs) (cells := cells) (slots := slots) (Q := Q) hx hb hK hP (3 + j) 0 (wS_n hj) rfl (by decide) (by decide) hdg (by rw [show r2 (U j) (bI (Z j)) 0 = U j from rfl]; exact kk)
  rw [nI_0] at h
  exact h
theorem rn_1 (hx : p.tables.exec = Jvm.exec) (hb : c.code = cc) (hK : va_K D cl (tyS cI cR) s) (hP : va_P D cl (wS cI cR r nr ar tc nc ac ch U Z B L F) H) {j : Nat} (hj : j < nc) (hdg : decode cc pc = .ok (.iaload, 1))
    (kk : W p l e R s m args below meth c H locs cells slots Q (F0 m (pc + 1) ls (.int (bI (Z j)) :: rest))) : W p l e R s m args below meth c H locs cells slots Q (F0 m pc ls (.int 1 :: .ref (nr j) :: rest)) := by
  have h := ia_ld (j := 1) (rest := rest) (ls := ls) (pc := pc) (p := p) (l := l) (e := e) (R := R) (m := m) (args := args) (below := below) (meth := meth) (locs := locs) (cells := cells) (slots := slots) (Q := Q) hx hb hK hP (3 + j) 0 (wS_n hj) rfl (by decide) (by decide) hdg (by rw [show r2 (U j) (bI (Z j)) 1 = bI (Z j) from rfl]; exact kk)
  exact h
theorem rgA_0 (hx : p.tables.exec = Jvm.exec) (hb : c.code = cc) (hK : va_K D cl (tyS cI cR) s) (hP : va_P D cl (wS cI cR r nr ar tc nc ac ch U Z B L F) H) {j : Nat} (hj : j < ac) (hdg : decode cc pc = .ok (.iaload, 1))
    (kk : W p l e R s m args below meth c H locs cells slots Q (F0 m (pc + 1) ls (.int (B j) :: rest))) : W p l e R s m args below meth c H locs cells slots Q (F0 m pc ls (.int 0 :: .ref (ar j) :: rest)) := by
  have h := ia_ld (j := 0) (rest := rest) (ls := ls) (pc := pc) (p := p) (l := l) (e := e) (R := R) (m := m) (args := args) (below := below) (meth := meth) (locs := locs) (cells := cells) (slots := slots) (Q := Q) hx hb hK hP (3 + (nc + j)) 0 (wS_a hj) rfl (by decide) (by decide) hdg (by rw [show r3 (B j) (L j) (F j) 0 = B j from rfl]; exact kk)
  rw [nI_0] at h
  exact h
theorem rgA_1 (hx : p.tables.exec = Jvm.exec) (hb : c.code = cc) (hK : va_K D cl (tyS cI cR) s) (hP : va_P D cl (wS cI cR r nr ar tc nc ac ch U Z B L F) H) {j : Nat} (hj : j < ac) (hdg : decode cc pc = .ok (.iaload, 1))
    (kk : W p l e R s m args below meth c H locs cells slots Q (F0 m (pc + 1) ls (.int (L j) :: rest))) : W p l e R s m args below meth c H locs cells slots Q (F0 m pc ls (.int 1 :: .ref (ar j) :: rest)) := by
  have h := ia_ld (j := 1) (rest := rest) (ls := ls) (pc := pc) (p := p) (l := l) (e := e) (R := R) (m := m) (args := args) (below := below) (meth := meth) (locs := locs) (cells := cells) (slots := slots) (Q := Q) hx hb hK hP (3 + (nc + j)) 0 (wS_a hj) rfl (by decide) (by decide) hdg (by rw [show r3 (B j) (L j) (F j) 1 = L j from rfl]; exact kk)
  exact h
theorem rgA_2 (hx : p.tables.exec = Jvm.exec) (hb : c.code = cc) (hK : va_K D cl (tyS cI cR) s) (hP : va_P D cl (wS cI cR r nr ar tc nc ac ch U Z B L F) H) {j : Nat} (hj : j < ac) (hdg : decode cc pc = .ok (.iaload, 1))
    (kk : W p l e R s m args below meth c H locs cells slots Q (F0 m (pc + 1) ls (.int (F j) :: rest))) : W p l e R s m args below meth c H locs cells slots Q (F0 m pc ls (.int 2 :: .ref (ar j) :: rest)) := by
  have h := ia_ld (j := 2) (rest := rest) (ls := ls) (pc := pc) (p := p) (l := l) (e := e) (R := R) (m := m) (args := args) (below := below) (meth := meth) (locs := locs) (cells := cells) (slots := slots) (Q := Q) hx hb hK hP (3 + (nc + j)) 0 (wS_a hj) rfl (by decide) (by decide) hdg (by rw [show r3 (B j) (L j) (F j) 2 = F j from rfl]; exact kk)
  exact h
theorem r3_0 {b v f x : Int32} : upd (r3 b v f) 0 x = r3 x v f := by
  funext i
  by_cases h : i = 0
  · subst h; rfl
  · rw [pk_un h]; simp [r3, h]
theorem r3_1 {b v f x : Int32} : upd (r3 b v f) 1 x = r3 b x f := by
  funext i
  by_cases h : i = 1
  · subst h; rfl
  · rw [pk_un h]; simp [r3, h]
theorem wA_set {n a : Nat} {b v f : Int32} (h : a < n) : (wA cI ar B L F n).set a (ar a, .inl (cI, 3, .inl (r3 b v f))) = wA cI ar (upd B a b) (upd L a v) (upd F a f) n := by
  refine List.ext_getElem? (fun k => ?_)
  rcases Nat.lt_or_ge k n with hk | hk
  · rw [wA_at hk]
    by_cases hka : k = a
    · subst hka
      rw [List.getElem?_set_self (by rw [wA_len]; exact h), pk_us, pk_us, pk_us]
    · rw [List.getElem?_set_ne (Ne.symm hka), wA_at hk, pk_un hka, pk_un hka, pk_un hka]
  · rw [List.getElem?_eq_none (by rw [List.length_set, wA_len]; exact hk), List.getElem?_eq_none (by rw [wA_len]; exact hk)]
theorem upd_id (f : Nat → Int32) (a : Nat) : upd f a (f a) = f := by
  funext j
  by_cases h : j = a
  · subst h; rw [pk_us]
  · rw [pk_un h]
theorem wS_set {a : Nat} {b v f : Int32} (h : a < ac) : (wS cI cR r nr ar tc nc ac ch U Z B L F).set (3 + (nc + a)) (ar a, .inl (cI, 3, .inl (r3 b v f))) = wS cI cR r nr ar tc nc ac ch U Z (upd B a b) (upd L a v) (upd F a f) := by
  show ([_, _, _] ++ (wN cI nr U Z nc ++ wA cI ar B L F ac) : va_W).set _ _ = [_, _, _] ++ (wN cI nr U Z nc ++ _)
  rw [List.set_append_right _ _ (by simp), List.set_append_right _ _ (by rw [wN_len]; simp), wN_len]
  rw [show 3 + (nc + a) - [(r 0, (Sum.inr (1, [Value.int (nI tc), .ref (r 1), .ref (r 2), .int ch]) : va_E)), (r 1, .inl (cR, nc, rf nr)), (r 2, .inl (cR, ac, rf ar))].length - nc = a by simp, wA_set h]
theorem rgA_st0 (hx : p.tables.exec = Jvm.exec) (hb : c.code = cc) {wl : va_W} {A : Nat → Prop} {H0 : Heap} (hK : va_K D cl (tyS cI cR) s) (hP : va_P D cl (wl ++ wS cI cR r nr ar tc nc ac ch U Z B L F) H) (hD : va_D A (wl ++ wS cI cR r nr ar tc nc ac ch U Z B L F)) (hS : va_S A H0 H locs) {j : Nat} (hj : j < ac) {x : Int32} (hdg : decode cc pc = .ok (.iastore, 1))
    (kk : ∀ (H1 : Heap) (locs1 : List Loc), va_P D cl (wl ++ wS cI cR r nr ar tc nc ac ch U Z (upd B j x) L F) H1 → va_D A (wl ++ wS cI cR r nr ar tc nc ac ch U Z (upd B j x) L F) → va_S A H0 H1 locs1 → W p l e R s m args below meth c H1 locs1 cells slots Q (F0 m (pc + 1) ls rest)) : W p l e R s m args below meth c H locs cells slots Q (F0 m pc ls (.int x :: .int 0 :: .ref (ar j) :: rest)) := by
  have ha : (wl ++ wS cI cR r nr ar tc nc ac ch U Z B L F)[wl.length + (3 + (nc + j))]? = some (ar j, .inl (cI, 3, .inl (r3 (B j) (L j) (F j)))) := by
    rw [List.getElem?_append_right (Nat.le_add_right _ _), Nat.add_sub_cancel_left, wS_a hj]
  have es : ∀ b v f, (wl ++ wS cI cR r nr ar tc nc ac ch U Z B L F).set (wl.length + (3 + (nc + j))) (ar j, .inl (cI, 3, .inl (r3 b v f))) = wl ++ wS cI cR r nr ar tc nc ac ch U Z (upd B j b) (upd L j v) (upd F j f) := fun b v f => by
    rw [List.set_append_right _ _ (Nat.le_add_right _ _), Nat.add_sub_cancel_left, wS_set hj]
  refine va_iast hx hb hK hP hD hS _ 0 ha rfl (i := 0) (vp_in_nI (n := 0) (N := 3) (by decide) (by decide)) hdg (fun H1 l1 h1 h2 h3 => ?_)
  have e0 : (0 : Int32).toNatClampNeg = 0 := by decide
  rw [e0, r3_0, es, upd_id L, upd_id F] at h1 h2
  exact kk H1 l1 h1 h2 h3
theorem rgA_st1 (hx : p.tables.exec = Jvm.exec) (hb : c.code = cc) {wl : va_W} {A : Nat → Prop} {H0 : Heap} (hK : va_K D cl (tyS cI cR) s) (hP : va_P D cl (wl ++ wS cI cR r nr ar tc nc ac ch U Z B L F) H) (hD : va_D A (wl ++ wS cI cR r nr ar tc nc ac ch U Z B L F)) (hS : va_S A H0 H locs) {j : Nat} (hj : j < ac) {x : Int32} (hdg : decode cc pc = .ok (.iastore, 1))
    (kk : ∀ (H1 : Heap) (locs1 : List Loc), va_P D cl (wl ++ wS cI cR r nr ar tc nc ac ch U Z B (upd L j x) F) H1 → va_D A (wl ++ wS cI cR r nr ar tc nc ac ch U Z B (upd L j x) F) → va_S A H0 H1 locs1 → W p l e R s m args below meth c H1 locs1 cells slots Q (F0 m (pc + 1) ls rest)) : W p l e R s m args below meth c H locs cells slots Q (F0 m pc ls (.int x :: .int 1 :: .ref (ar j) :: rest)) := by
  have ha : (wl ++ wS cI cR r nr ar tc nc ac ch U Z B L F)[wl.length + (3 + (nc + j))]? = some (ar j, .inl (cI, 3, .inl (r3 (B j) (L j) (F j)))) := by
    rw [List.getElem?_append_right (Nat.le_add_right _ _), Nat.add_sub_cancel_left, wS_a hj]
  have es : ∀ b v f, (wl ++ wS cI cR r nr ar tc nc ac ch U Z B L F).set (wl.length + (3 + (nc + j))) (ar j, .inl (cI, 3, .inl (r3 b v f))) = wl ++ wS cI cR r nr ar tc nc ac ch U Z (upd B j b) (upd L j v) (upd F j f) := fun b v f => by
    rw [List.set_append_right _ _ (Nat.le_add_right _ _), Nat.add_sub_cancel_left, wS_set hj]
  refine va_iast hx hb hK hP hD hS _ 0 ha rfl (i := 1) (vp_in_nI (n := 1) (N := 3) (by decide) (by decide)) hdg (fun H1 l1 h1 h2 h3 => ?_)
  have e0 : (1 : Int32).toNatClampNeg = 1 := by decide
  rw [e0, r3_1, es, upd_id B, upd_id F] at h1 h2
  exact kk H1 l1 h1 h2 h3
end SR
end SROWS
