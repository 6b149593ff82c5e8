/-! ===== the law's ground: what holds all along, rows ===== -/
abbrev lA (s : State) : Nat → Prop := fun q => s.heap.size ≤ q
def LC (l : Launch) (p : Program) (s : State) (m : MethodId) (c : Code) (b N : Nat) (xs : Nat → Int32) (D : va_G) (cI cZ cR : ClassId) : Prop :=
  p.tables.exec = Jvm.exec ∧ c.code = cL_law ∧ c.maxLocals = 28 ∧ s.vm.findClass RL = some m.cls ∧ (∀ w ∈ wsL_law, w.before #[Value.ref b] s = true) ∧ va_X b N xs s s.heap ∧ b < s.heap.size ∧ N ≤ 260 ∧ va_K D vwCl (tyL cI cZ cR) s ∧ ov s ∧ nst s
def dgX (tc nc ac : Nat) (ch : Int32) (U : Nat → Int32) (Z : Nat → Bool) (B L F : Nat → Int32) : Int64 := dfo (fun a x => mix (mix (mix x (B a).toInt64) (L a).toInt64) (nI (un U Z (B a) nc)).toInt64) (dfo (fun j x => mix (mix x (U j).toInt64) (bI (Z j)).toInt64) (dfo (fun t x => dTh (nI (ct (fun j => ho (U j) (nI t)) nc)) (nI (ct (fun j => Z j && ho (U j) (nI t)) nc)) (bI (ho (cld U Z nc) (nI t))) (bI (anyb (fun j => Z j && ho (U j) (nI t) && decide (U j &&& ((cld U Z nc ||| ((1 : Int32) <<< (nI t &&& 31))) ^^^ (-1)) = 0)) nc)) (nI (mt U Z nc (pw tc) ((1 : Int32) <<< (nI t &&& 31)))) (nI (ct (fun a => ho (B a) (nI t)) ac)) x) (dhd (nI tc) (nI nc) (nI (ct Z nc)) (bI (decide (mnf (mis U Z nc) (nI nc) (pw tc) = 0))) (nI ac) (orf (fun t => decide (¬ nI (ct (fun a => ho (B a) (nI t)) ac) * 2 ≤ nI ac)) (fun t => (1 : Int32) <<< (nI t &&& 31)) tc) ch (nI (ex U Z nc (pw tc))) ((spx (fun k => zz U Z nc k) (pw tc)).1) ((if decide (mnf (mis U Z nc) (nI nc) (pw tc) = 0) = true then anf (fun k => zz U Z nc k) (nI (pw tc - 1)) (pw tc) else -1))) tc) nc) ac
theorem g_X_digestV (l : Launch) {D : va_G} {cI cZ : ClassId} {q : Nat → Nat} {tc nc ac : Nat} {ch : Int32} {U : Nat → Int32} {Z : Nat → Bool} {B L F : Nat → Int32} {H : Heap} (hP : va_P D vwCl (wX cI cZ q tc nc ac ch U Z B L F) H) (htc : tc ≤ 8) (hnc : nc ≤ 40) (hac : ac ≤ 8) (hB : ∀ a, ∃ k, k < pw tc ∧ B a = nI k) : Met l yX0_digest wsX0_digest ({ frames := 4, cells := 0, slots := 0, locals := 90 }) (va_Pc [.ref (q 0)] (rd D vwCl (tyA cI cZ) H)) (vp_Sl (fun r => r = dgX tc nc ac ch U Z B L F)) 0 0 (fun _ => False) :=
  g_X_digest l hP htc hnc hac (fun a _ => by
    obtain ⟨k, hk, e⟩ := hB a
    have hpw := pw_in htc
    exact ⟨k, by omega, e⟩)
section WL
variable {A : Nat → Prop} {D : va_G} {cl : List vw_C} {w wr wl w1 tl : va_W} {H H1 : Heap}
theorem up_l3 (hP : va_P D cl ((w ++ wr) ++ tl) H) (hD : va_D A ((w ++ wr) ++ tl)) (hk : ∀ q : Nat, q < H.size → ¬ va_A w H.size q → H1[q]? = H[q]?) (h1 : va_P D cl w1 H1) : va_P D cl ((w1 ++ wr) ++ tl) H1 := by
  rw [List.append_assoc] at hP hD ⊢
  exact up_l hP hD hk h1
theorem keepT (hP : va_P D cl ((wl ++ w) ++ tl) H) (hD : va_D A ((wl ++ w) ++ tl)) (hk : ∀ q : Nat, q < H.size → ¬ va_A w H.size q → H1[q]? = H[q]?) : va_P D cl tl H1 := by
  intro k q hq
  have hi : ((wl ++ w) ++ tl)[(wl ++ w).length + k]? = some q := by rw [List.getElem?_append_right (Nat.le_add_right _ _), Nat.add_sub_cancel_left]; exact hq
  have hat := hP _ _ hi
  refine hat.kept (hk q.1 hat.lt (fun h => ?_))
  rcases h with ⟨k2, e2, h2⟩ | h2
  · have hl2 := (List.getElem?_eq_some_iff.mp h2).1
    have h3 : ((wl ++ w) ++ tl)[wl.length + k2]? = some (q.1, e2) := by
      rw [List.getElem?_append_left (by rw [List.length_append]; omega), List.getElem?_append_right (Nat.le_add_right _ _), Nat.add_sub_cancel_left]; exact h2
    have h4 := hD.1 _ _ _ _ hi h3 rfl
    rw [List.length_append] at h4
    omega
  · exact absurd hat.lt (Nat.not_lt.mpr h2)
variable {p : Program} {l : Launch} {e : Env} {R : Room} {s : State} {m : MethodId} {args : Array Value} {below : List Frame} {meth : Method} {c : Code} {locs : List Loc} {cells slots : Nat} {Q : State → Prop}
variable {cc : ByteArray} {pc nL : Nat} {ls : Array Slot} {rest : List Value} {tys : List (ClassId × FieldType)}
/-- a place of a row behind is written -/
theorem ir_st (hx : p.tables.exec = Jvm.exec) (hb : c.code = cc) {a : Nat} {H0 : Heap} (hK : va_K D cl tys s) {cA : ClassId} {n : Nat} {f : Nat → Int32} (hP : va_P D cl (wl ++ w) H) (hD : va_D A (wl ++ w)) (hS : va_S A H0 H locs) (k t0 : Nat) (ha : w[k]? = some (a, .inl (cA, n, .inl f))) (ht : tys[t0]? = some (cA, .int)) {x : Int32} {j : Nat} (hj : j < n) (hn : n ≤ 256) (hdg : decode cc pc = .ok (.iastore, 1))
    (kk : ∀ (H1 : Heap) (locs1 : List Loc), va_P D cl (wl ++ w.set k (a, .inl (cA, n, .inl (upd f j x)))) H1 → va_D A (wl ++ w.set k (a, .inl (cA, n, .inl (upd f j x)))) → va_S A H0 H1 locs1 → W p l e R s m args below meth c H1 locs1 cells slots Q (F0 m (pc + 1) ls rest)) : W p l e R s m args below meth c H locs cells slots Q (F0 m pc ls (.int x :: .int (nI j) :: .ref a :: rest)) := by
  have h0 : (wl ++ w)[wl.length + k]? = some (a, .inl (cA, n, .inl f)) := by rw [List.getElem?_append_right (Nat.le_add_right _ _), Nat.add_sub_cancel_left]; exact ha
  refine va_iast hx hb hK hP hD hS (wl.length + k) t0 h0 ht (vp_in_nI hj (by omega)) hdg (fun H1 l1 h1 h2 h3 => ?_)
  rw [nI_clamp (by omega), List.set_append_right _ _ (Nat.le_add_right _ _), Nat.add_sub_cancel_left] at h1 h2
  exact kk H1 l1 h1 h2 h3
theorem lv_e0 (hx : p.tables.exec = Jvm.exec) (hb : c.code = cc) {x : Int32} {off off2 : Int} {t0 : Nat} (d0 : decode cc pc = .ok (.ifCond .ne off, 3)) (d1 : decode cc (pc + 3) = .ok (.iconst 1, 1)) (d2 : decode cc (pc + 4) = .ok (.goto off2, 3)) (d3 : decode cc t0 = .ok (.iconst 0, 1)) (ht : (pc : Int) + off = (t0 : Int)) (ht2 : ((pc + 4 : Nat) : Int) + off2 = ((t0 + 1 : Nat) : Int))
    (k : W p l e R s m args below meth c H locs cells slots Q (F0 m (t0 + 1) ls (.int (bI (decide (x = 0))) :: rest))) : W p l e R s m args below meth c H locs cells slots Q (F0 m pc ls (.int x :: rest)) :=
  lv_if_ne (tgt := t0) hx hb d0 ht (fun h => lv_iconst (v := 0) hx hb d3 (by decide) (by rw [decide_eq_false h] at k; exact k))
    (fun h => lv_iconst (v := 1) hx hb d1 (by decide) (lv_goto (tgt := t0 + 1) hx hb d2 ht2 (by rw [decide_eq_true h] at k; exact k)))
theorem lv_ge0 (hx : p.tables.exec = Jvm.exec) (hb : c.code = cc) {x : Int32} {off off2 : Int} {t0 : Nat} (d0 : decode cc pc = .ok (.ifCond .lt off, 3)) (d1 : decode cc (pc + 3) = .ok (.iconst 1, 1)) (d2 : decode cc (pc + 4) = .ok (.goto off2, 3)) (d3 : decode cc t0 = .ok (.iconst 0, 1)) (ht : (pc : Int) + off = (t0 : Int)) (ht2 : ((pc + 4 : Nat) : Int) + off2 = ((t0 + 1 : Nat) : Int))
    (k : W p l e R s m args below meth c H locs cells slots Q (F0 m (t0 + 1) ls (.int (bI (decide (¬ x < 0))) :: rest))) : W p l e R s m args below meth c H locs cells slots Q (F0 m pc ls (.int x :: rest)) :=
  lv_if_lt (tgt := t0) hx hb d0 ht (fun h => lv_iconst (v := 0) hx hb d3 (by decide) (by rw [decide_eq_false (p := ¬ x < 0) (fun w => w h)] at k; exact k))
    (fun h => lv_iconst (v := 1) hx hb d1 (by decide) (lv_goto (tgt := t0 + 1) hx hb d2 ht2 (by rw [decide_eq_true (p := ¬ x < 0) h] at k; exact k)))
theorem lv_blt (hx : p.tables.exec = Jvm.exec) (hb : c.code = cc) {x y : Int32} {off off2 : Int} {t0 : Nat} (d0 : decode cc pc = .ok (.if_icmp .ge off, 3)) (d1 : decode cc (pc + 3) = .ok (.iconst 1, 1)) (d2 : decode cc (pc + 4) = .ok (.goto off2, 3)) (d3 : decode cc t0 = .ok (.iconst 0, 1)) (ht : (pc : Int) + off = (t0 : Int)) (ht2 : ((pc + 4 : Nat) : Int) + off2 = ((t0 + 1 : Nat) : Int))
    (k : W p l e R s m args below meth c H locs cells slots Q (F0 m (t0 + 1) ls (.int (bI (decide (¬ y ≤ x))) :: rest))) : W p l e R s m args below meth c H locs cells slots Q (F0 m pc ls (.int y :: .int x :: rest)) :=
  lv_icmp_ge (tgt := t0) hx hb d0 ht (fun h => lv_iconst (v := 0) hx hb d3 (by decide) (by rw [decide_eq_false (p := ¬ y ≤ x) (fun w => w h)] at k; exact k))
    (fun h => lv_iconst (v := 1) hx hb d1 (by decide) (lv_goto (tgt := t0 + 1) hx hb d2 ht2 (by rw [decide_eq_true (p := ¬ y ≤ x) h] at k; exact k)))
theorem lv_bgt (hx : p.tables.exec = Jvm.exec) (hb : c.code = cc) {x y : Int32} {off off2 : Int} {t0 : Nat} (d0 : decode cc pc = .ok (.if_icmp .le off, 3)) (d1 : decode cc (pc + 3) = .ok (.iconst 1, 1)) (d2 : decode cc (pc + 4) = .ok (.goto off2, 3)) (d3 : decode cc t0 = .ok (.iconst 0, 1)) (ht : (pc : Int) + off = (t0 : Int)) (ht2 : ((pc + 4 : Nat) : Int) + off2 = ((t0 + 1 : Nat) : Int))
    (k : W p l e R s m args below meth c H locs cells slots Q (F0 m (t0 + 1) ls (.int (bI (decide (¬ x ≤ y))) :: rest))) : W p l e R s m args below meth c H locs cells slots Q (F0 m pc ls (.int y :: .int x :: rest)) :=
  lv_icmp_le (tgt := t0) hx hb d0 ht (fun h => lv_iconst (v := 0) hx hb d3 (by decide) (by rw [decide_eq_false (p := ¬ x ≤ y) (fun w => w h)] at k; exact k))
    (fun h => lv_iconst (v := 1) hx hb d1 (by decide) (lv_goto (tgt := t0 + 1) hx hb d2 ht2 (by rw [decide_eq_true (p := ¬ x ≤ y) h] at k; exact k)))
theorem lv_nb (hx : p.tables.exec = Jvm.exec) (hb : c.code = cc) {z : Bool} {off off2 : Int} {t0 : Nat} (d0 : decode cc pc = .ok (.ifCond .eq off, 3)) (d1 : decode cc (pc + 3) = .ok (.iconst 0, 1)) (d2 : decode cc (pc + 4) = .ok (.goto off2, 3)) (d3 : decode cc t0 = .ok (.iconst 1, 1)) (ht : (pc : Int) + off = (t0 : Int)) (ht2 : ((pc + 4 : Nat) : Int) + off2 = ((t0 + 1 : Nat) : Int))
    (k : W p l e R s m args below meth c H locs cells slots Q (F0 m (t0 + 1) ls (.int (bI (!z)) :: rest))) : W p l e R s m args below meth c H locs cells slots Q (F0 m pc ls (.int (bI z) :: rest)) :=
  lv_ifb_eq (tgt := t0) hx hb d0 ht (fun h => lv_iconst (v := 1) hx hb d3 (by decide) (by rw [h] at k; exact k))
    (fun h => lv_iconst (v := 0) hx hb d1 (by decide) (lv_goto (tgt := t0 + 1) hx hb d2 ht2 (by rw [h] at k; exact k)))
theorem lv_lne (hx : p.tables.exec = Jvm.exec) (hb : c.code = cc) {x y : Int64} {off : Int} {tgt : Nat} (exy : x = y) (d0 : decode cc pc = .ok (.lcmp, 1)) (d1 : decode cc (pc + 1) = .ok (.ifCond .ne off, 3)) (ht : ((pc + 1 : Nat) : Int) + off = (tgt : Int))
    (k : W p l e R s m args below meth c H locs cells slots Q (F0 m (pc + 1 + 3) ls rest)) : W p l e R s m args below meth c H locs cells slots Q (F0 m pc ls (.long y :: .long x :: rest)) :=
  W.lcmp hx hb d0 (lv_if_ne (tgt := tgt) hx hb d1 ht (fun h => absurd (by rw [exy]; exact lg_self y) h) (fun _ => k))
end WL
