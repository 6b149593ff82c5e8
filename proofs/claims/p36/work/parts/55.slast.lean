/-! ===== rows on the last cell of a world ===== -/
section LAST
variable {A : Nat → Prop} {D : va_G} {cl : List vw_C} {H : Heap} {w w' wl : va_W}
theorem last_at (w : va_W) (x : Nat × va_E) : (w ++ [x])[w.length]? = some x := by
  rw [List.getElem?_append_right (Nat.le_refl _), Nat.sub_self]; rfl
theorem last_set (w : va_W) (x y : Nat × va_E) : (w ++ [x]).set w.length y = w ++ [y] := by
  rw [List.set_append_right _ _ (Nat.le_refl _), Nat.sub_self]; rfl
theorem P_lastq {a : Nat} {cA : ClassId} {n : Nat} {f g : Nat → Option Nat} (h : va_P D cl (w ++ [(a, .inl (cA, n, rq f))]) H) (hfg : ∀ j, j < n → f j = g j) : va_P D cl (w ++ [(a, .inl (cA, n, rq g))]) H := by
  have h2 := va_P_refs h w.length (last_at _ _) hfg
  rw [last_set] at h2
  exact h2
theorem P_lasti {a : Nat} {cA : ClassId} {n : Nat} {f g : Nat → Int32} (h : va_P D cl (w ++ [(a, .inl (cA, n, .inl f))]) H) (hfg : ∀ j, j < n → f j = g j) : va_P D cl (w ++ [(a, .inl (cA, n, .inl g))]) H := by
  have h2 := va_P_arr h w.length (last_at _ _) hfg
  rw [last_set] at h2
  exact h2
theorem D_last {a : Nat} {e e' : va_E} (h : va_D A (w ++ [(a, e)])) : va_D A (w ++ [(a, e')]) := va_D_re h (by simp)
theorem P_two {x y : Nat × va_E} (h1 : va_at D cl x H) (h2 : va_at D cl y H) : va_P D cl [x, y] H := by
  intro k q hk
  match k, hk with
  | 0, hk => cases hk; exact h1
  | 1, hk => cases hk; exact h2
  | k + 2, hk => simp at hk
theorem P_one {x : Nat × va_E} (h1 : va_at D cl x H) : va_P D cl [x] H := by
  intro k q hk
  match k, hk with
  | 0, hk => cases hk; exact h1
  | k + 1, hk => simp at hk
variable {p : Program} {l : Launch} {e : Env} {R : Room} {s : State} {m : MethodId} {args : Array Value} {below : List Frame} {meth : Method} {c : Code} {locs : List Loc} {cells slots : Nat} {Q : State → Prop}
variable {cc : ByteArray} {pc nL : Nat} {ls : Array Slot} {rest : List Value} {tys : List (ClassId × FieldType)}
theorem il_st (hx : p.tables.exec = Jvm.exec) (hb : c.code = cc) {a : Nat} {H0 : Heap} (hK : va_K D cl tys s) {cA : ClassId} {n : Nat} {f : Nat → Int32} (hP : va_P D cl (w ++ [(a, .inl (cA, n, .inl f))]) H) (hD : va_D A (w ++ [(a, .inl (cA, n, .inl f))])) (hS : va_S A H0 H locs) (t0 : Nat) (ht : tys[t0]? = some (cA, .int)) {i x : Int32} {j : Nat} (hi : i = nI j) (hj : j < n) (hn : n ≤ 256) (hdg : decode cc pc = .ok (.iastore, 1))
    (kk : ∀ (H1 : Heap) (locs1 : List Loc), va_P D cl (w ++ [(a, .inl (cA, n, .inl (upd f j x)))]) H1 → va_D A (w ++ [(a, .inl (cA, n, .inl (upd f j x)))]) → va_S A H0 H1 locs1 → W p l e R s m args below meth c H1 locs1 cells slots Q (F0 m (pc + 1) ls rest)) : W p l e R s m args below meth c H locs cells slots Q (F0 m pc ls (.int x :: .int i :: .ref a :: rest)) := by
  subst hi
  refine va_iast hx hb hK hP hD hS w.length t0 (last_at _ _) ht (vp_in_nI hj (by omega)) hdg (fun H1 l1 h1 h2 h3 => ?_)
  rw [nI_clamp (by omega), last_set] at h1 h2
  exact kk H1 l1 h1 h2 h3
/-- a boolean by a jump -/
theorem lv_bb (hx : p.tables.exec = Jvm.exec) (hb : c.code = cc) {z : Bool} {off off2 : Int} {t0 : Nat} (d0 : decode cc pc = .ok (.ifCond .eq off, 3)) (d1 : decode cc (pc + 3) = .ok (.iconst 1, 1)) (d2 : decode cc (pc + 4) = .ok (.goto off2, 3)) (d3 : decode cc t0 = .ok (.iconst 0, 1)) (ht : (pc : Int) + off = (t0 : Int)) (ht2 : ((pc + 4 : Nat) : Int) + off2 = ((t0 + 1 : Nat) : Int))
    (k : W p l e R s m args below meth c H locs cells slots Q (F0 m (t0 + 1) ls (.int (bI z) :: rest))) : W p l e R s m args below meth c H locs cells slots Q (F0 m pc ls (.int (bI z) :: rest)) :=
  lv_ifb_eq (tgt := t0) hx hb d0 ht (fun h => lv_iconst (v := 0) hx hb d3 (by decide) (by rw [h] at k; exact k))
    (fun h => lv_iconst (v := 1) hx hb d1 (by decide) (lv_goto (tgt := t0 + 1) hx hb d2 ht2 (by rw [h] at k; exact k)))
/-- .. whether two ints are the same -/
theorem lv_be (hx : p.tables.exec = Jvm.exec) (hb : c.code = cc) {x y : Int32} {off off2 : Int} {t0 : Nat} (d0 : decode cc pc = .ok (.if_icmp .ne off, 3)) (d1 : decode cc (pc + 3) = .ok (.iconst 1, 1)) (d2 : decode cc (pc + 4) = .ok (.goto off2, 3)) (d3 : decode cc t0 = .ok (.iconst 0, 1)) (ht : (pc : Int) + off = (t0 : Int)) (ht2 : ((pc + 4 : Nat) : Int) + off2 = ((t0 + 1 : Nat) : Int))
    (k : W p l e R s m args below meth c H locs cells slots Q (F0 m (t0 + 1) ls (.int (bI (decide (x = y))) :: rest))) : W p l e R s m args below meth c H locs cells slots Q (F0 m pc ls (.int y :: .int x :: rest)) :=
  lv_icmp_ne (tgt := t0) hx hb d0 ht (fun h => lv_iconst (v := 0) hx hb d3 (by decide) (by rw [decide_eq_false h] at k; exact k))
    (fun h => lv_iconst (v := 1) hx hb d1 (by decide) (lv_goto (tgt := t0 + 1) hx hb d2 ht2 (by rw [decide_eq_true h] at k; exact k)))
end LAST
def cutl (t i : Nat) : Nat := if i ≤ t then i else i - 1
theorem cutl_0 (t : Nat) : cutl t 0 = 0 := if_pos (Nat.zero_le _)
theorem cutl_t (t : Nat) : cutl t (t + 1) = cutl t t := by
  unfold cutl
  rw [if_neg (by omega), if_pos (Nat.le_refl _)]; rfl
theorem cutl_s {t i : Nat} (h : i ≠ t) : cutl t (i + 1) = cutl t i + 1 := by
  unfold cutl
  by_cases h1 : i ≤ t
  · rw [if_pos h1, if_pos (by omega)]
  · rw [if_neg h1, if_neg (by omega)]; omega
theorem cutl_e {t n : Nat} (h : t < n) : cutl t n = n - 1 := if_neg (by omega)
theorem cutl_le (t i : Nat) : cutl t i ≤ i := by unfold cutl; split <;> omega
theorem shN_at {nr : Nat → Nat} {t i : Nat} (h : i ≠ t) : shN nr t (cutl t i) = nr i := by
  unfold cutl shN
  by_cases h1 : i ≤ t
  · rw [if_pos h1, if_pos (by omega)]
  · rw [if_neg h1, if_neg (by omega)]
    congr 1; omega
theorem shN_up {nr : Nat → Nat} {t i : Nat} (h : i ≠ t) (j : Nat) : va_up (shN nr t) (cutl t i) (nr i) j = shN nr t j := by
  by_cases h1 : j = cutl t i
  · subst h1; rw [va_up_self, shN_at h]
  · rw [va_up_ne _ _ h1]
theorem hU_upd {U : Nat → Int32} {N n k : Nat} (hU : ∀ j, ∃ k, k < N ∧ U j = nI k) (hk : k < N) : ∀ j, ∃ k', k' < N ∧ upd U n (nI k) j = nI k' := fun j => by
  by_cases h : j = n
  · subst h; rw [pk_us]; exact ⟨k, hk, rfl⟩
  · rw [pk_un h]; exact hU j
theorem hU_shf {U : Nat → Int32} {N g i : Nat} (hU : ∀ j, ∃ k, k < N ∧ U j = nI k) : ∀ j, ∃ k', k' < N ∧ shf U g i j = nI k' := fun j => by
  unfold shf
  split
  · exact hU (j + 1)
  · exact hU j
theorem r2_of {u z : Int32} {j : Nat} (h : j < 2) : upd (upd (fun _ => 0) 0 u) 1 z j = r2 u z j := by
  rcases (show j = 0 ∨ j = 1 by omega) with rfl | rfl
  · rw [pk_un (by decide), pk_us]; rfl
  · rw [pk_us]; rfl
theorem sx_of {s u : Int32} {z : Bool} (h : bI (decide (¬ s &&& u = 0)) = bI z) : sx s u z = true := by
  unfold sx
  rw [bI_inj.mp h]
  cases z <;> rfl
theorem sx_not {s u : Int32} {z : Bool} (h : ¬ bI (decide (¬ s &&& u = 0)) = bI z) : sx s u z = false := by
  unfold sx
  cases hd : decide (¬ s &&& u = 0) <;> cases z <;> simp_all
theorem spx_neg {p : Nat → Bool} {N : Nat} (hN : N ≤ 256) (h : (spx p N).1 < 0) : (spx p N).1 = -1 := by
  rcases spx_best p N hN with ⟨e, -⟩ | ⟨k, hk, e, -⟩
  · exact e
  · rw [e] at h
    exact absurd h (nI_pos (by omega))
theorem spx_pos {p : Nat → Bool} {N : Nat} (h : ¬ (spx p N).1 < 0) : ¬ (spx p N).1 = -1 := fun w => h (by rw [w]; decide)
