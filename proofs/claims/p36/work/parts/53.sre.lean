/-! ===== the hand-made quarrel's cells after a row more, or one less ===== -/
section RE
variable {A : Nat → Prop} {D : va_G} {cl : List vw_C} {H : Heap} {w w' wl : va_W}
theorem re_PD (g : Nat → Nat) (hP : va_P D cl w H) (hD : va_D A w) (hg : ∀ (k : Nat) (q : Nat × va_E), w'[k]? = some q → w[g k]? = some q) (hi : ∀ i j : Nat, i < w'.length → j < w'.length → g i = g j → i = j) : va_P D cl w' H ∧ va_D A w' := ⟨hP.by g hg, hD.by g hg hi⟩
theorem re_PDl (g : Nat → Nat) (hP : va_P D cl (wl ++ w) H) (hD : va_D A (wl ++ w)) (hg : ∀ (k : Nat) (q : Nat × va_E), w'[k]? = some q → w[g k]? = some q) (hi : ∀ i j : Nat, i < w'.length → j < w'.length → g i = g j → i = j) : va_P D cl (wl ++ w') H ∧ va_D A (wl ++ w') := by
  have hg2 : ∀ (k : Nat) (q : Nat × va_E), (wl ++ w')[k]? = some q → (wl ++ w)[if k < wl.length then k else wl.length + g (k - wl.length)]? = some q := by
    intro k q hk
    by_cases h : k < wl.length
    · rw [if_pos h, List.getElem?_append_left h]
      rw [List.getElem?_append_left h] at hk
      exact hk
    · rw [if_neg h, List.getElem?_append_right (Nat.le_add_right _ _), Nat.add_sub_cancel_left]
      rw [List.getElem?_append_right (by omega)] at hk
      exact hg _ _ hk
  have gl : ∀ k, k < w'.length → g k < w.length := by
    intro k hk
    have h2 := hg k w'[k] (List.getElem?_eq_getElem hk)
    exact (List.getElem?_eq_some_iff.mp h2).1
  refine ⟨hP.by _ hg2, hD.by _ hg2 (fun i j hi9 hj9 e => ?_)⟩
  rw [List.length_append] at hi9 hj9
  by_cases h1 : i < wl.length
  · by_cases h2 : j < wl.length
    · rw [if_pos h1, if_pos h2] at e; exact e
    · rw [if_pos h1, if_neg h2] at e; omega
  · by_cases h2 : j < wl.length
    · rw [if_neg h1, if_pos h2] at e; omega
    · rw [if_neg h1, if_neg h2] at e
      have := hi (i - wl.length) (j - wl.length) (by omega) (by omega) (by omega)
      omega
theorem D_lA (hD : va_D A (w ++ w')) : va_D A w := ⟨fun i j x y hi hj hxy => hD.1 i j x y (by rw [List.getElem?_append_left (List.getElem?_eq_some_iff.mp hi).1]; exact hi) (by rw [List.getElem?_append_left (List.getElem?_eq_some_iff.mp hj).1]; exact hj) hxy, fun k q hk => hD.2 k q (by rw [List.getElem?_append_left (List.getElem?_eq_some_iff.mp hk).1]; exact hk)⟩
theorem D_rA (hD : va_D A (wl ++ w)) : va_D A w := ⟨(D_r hD).1, fun k q hk => hD.2 (wl.length + k) q (by rw [List.getElem?_append_right (Nat.le_add_right _ _), Nat.add_sub_cancel_left]; exact hk)⟩
theorem va_P_refs {a : Nat} {cA : ClassId} {n : Nat} {f g : Nat → Option Nat} (h : va_P D cl w H) (k : Nat) (hk : w[k]? = some (a, .inl (cA, n, rq f))) (hfg : ∀ j, j < n → f j = g j) : va_P D cl (w.set k (a, .inl (cA, n, rq g))) H := by
  have hl := (List.getElem?_eq_some_iff.mp hk).1
  intro i q hi
  by_cases hik : i = k
  · subst hik
    rw [List.getElem?_set_self hl] at hi
    cases hi
    have h1 : H[a]? = some (vp_cell cA (n, rq f)) := h i _ hk
    show H[a]? = some (vp_cell cA (n, rq g))
    rw [h1, refs_cong hfg]
  · rw [List.getElem?_set_ne (Ne.symm hik)] at hi
    exact h i q hi
/-- what was there before stays, where new cells alone are written -/
theorem old_P {H0 : Heap} {locs : List Loc} (hP : va_P D cl w H0) (hS : va_S (fun z => H0.size ≤ z) H0 H locs) : va_P D cl w H := hP.kept (fun k q hk => hS.2.1 q.1 (hP k q hk).lt (Nat.not_le.mpr (hP k q hk).lt))
variable {cI cR : ClassId} {r nr ar : Nat → Nat} {tc nc ac : Nat} {ch : Int32} {U : Nat → Int32} {Z : Nat → Bool} {B L F : Nat → Int32} {x0 x1 x2 y0 y1 : Nat × va_E}
theorem O_n {j : Nat} (h : j < nc) (R : va_W) : ((x0 :: x1 :: x2 :: (wN cI nr U Z nc ++ wA cI ar B L F ac)) ++ R)[3 + j]? = some (nr j, .inl (cI, 2, .inl (r2 (U j) (bI (Z j))))) := by
  rw [List.getElem?_append_left (by simp; omega), Nat.add_comm]
  show (wN cI nr U Z nc ++ wA cI ar B L F ac)[j]? = _
  rw [List.getElem?_append_left (by rw [wN_len]; exact h), wN_at h]
theorem O_a {a : Nat} (h : a < ac) (R : va_W) : ((x0 :: x1 :: x2 :: (wN cI nr U Z nc ++ wA cI ar B L F ac)) ++ R)[3 + (nc + a)]? = some (ar a, .inl (cI, 3, .inl (r3 (B a) (L a) (F a)))) := by
  rw [List.getElem?_append_left (by simp; omega), Nat.add_comm]
  show (wN cI nr U Z nc ++ wA cI ar B L F ac)[nc + a]? = _
  rw [List.getElem?_append_right (by rw [wN_len]; omega), wN_len, Nat.add_sub_cancel_left, wA_at h]
theorem O_r (R : va_W) (k : Nat) : ((x0 :: x1 :: x2 :: (wN cI nr U Z nc ++ wA cI ar B L F ac)) ++ R)[3 + (nc + ac) + k]? = R[k]? := by
  rw [List.getElem?_append_right (by simp; omega)]
  congr 1
  simp; omega
def rr (r : Nat → Nat) (i v : Nat) : Nat → Nat := va_up r i v
theorem rr_0 {i v : Nat} (h : 0 ≠ i) : rr r i v 0 = r 0 := va_up_ne r v h
/-- a night more -/
def gN (nc ac : Nat) (k : Nat) : Nat := if k = 1 then 3 + (nc + ac) + 1 else if k < 3 + nc then k else if k = 3 + nc then 3 + (nc + ac) + 0 else k - 1
theorem pushN_g {b q : Nat} {u : Int32} {z : Bool} (k : Nat) (x : Nat × va_E) (hk : (wS cI cR (rr r 1 q) (va_up nr nc b) ar tc (nc + 1) ac ch (upd U nc u) (updB Z nc z) B L F)[k]? = some x) :
    (((r 0, .inr (1, [.int (nI tc), .ref q, .ref (r 2), .int ch])) :: x1 :: (r 2, .inl (cR, ac, rf ar)) :: (wN cI nr U Z nc ++ wA cI ar B L F ac)) ++ [(b, .inl (cI, 2, .inl (r2 u (bI z)))), (q, .inl (cR, nc + 1, rf (va_up nr nc b)))])[gN nc ac k]? = some x := by
  rcases wS_inv hk with ⟨rfl, rfl⟩ | ⟨rfl, rfl⟩ | ⟨rfl, rfl⟩ | ⟨j, hj, rfl, rfl⟩ | ⟨a, ha, rfl, rfl⟩
  · rw [show gN nc ac 0 = 0 by unfold gN; rw [if_neg (by decide), if_pos (by omega)]]
    rfl
  · rw [show gN nc ac 1 = 3 + (nc + ac) + 1 from if_pos rfl, O_r]
    rfl
  · rw [show gN nc ac 2 = 2 by unfold gN; rw [if_neg (by decide), if_pos (by omega)]]
    rfl
  · by_cases h : j < nc
    · rw [show gN nc ac (3 + j) = 3 + j by unfold gN; rw [if_neg (by omega), if_pos (by omega)], O_n h, va_up_ne nr b (by omega), pk_un (by omega), updB_lt h]
    · have e : j = nc := by omega
      subst e
      rw [show gN j ac (3 + j) = 3 + (j + ac) + 0 by unfold gN; rw [if_neg (by omega), if_neg (by omega), if_pos rfl], O_r, va_up_self, pk_us, updB_at]
      rfl
  · rw [show gN nc ac (3 + (nc + 1 + a)) = 3 + (nc + a) by unfold gN; rw [if_neg (by omega), if_neg (by omega), if_neg (by omega)]; omega, O_a ha]
theorem pushN_i (i j : Nat) (hi : i < 3 + (nc + 1) + ac) (hj : j < 3 + (nc + 1) + ac) (e : gN nc ac i = gN nc ac j) : i = j := by
  unfold gN at e
  repeat' (split at e)
  all_goals omega
/-- an astronomer more -/
def gA (nc ac : Nat) (k : Nat) : Nat := if k = 2 then 3 + (nc + ac) + 1 else k
theorem pushA_g {b q : Nat} {v : Int32} (k : Nat) (x : Nat × va_E) (hk : (wS cI cR (rr r 2 q) nr (va_up ar ac b) tc nc (ac + 1) ch U Z (upd B ac 0) (upd L ac v) (upd F ac v))[k]? = some x) :
    (((r 0, .inr (1, [.int (nI tc), .ref (r 1), .ref q, .int ch])) :: (r 1, .inl (cR, nc, rf nr)) :: x2 :: (wN cI nr U Z nc ++ wA cI ar B L F ac)) ++ [(b, .inl (cI, 3, .inl (r3 0 v v))), (q, .inl (cR, ac + 1, rf (va_up ar ac b)))])[gA nc ac k]? = some x := by
  rcases wS_inv hk with ⟨rfl, rfl⟩ | ⟨rfl, rfl⟩ | ⟨rfl, rfl⟩ | ⟨j, hj, rfl, rfl⟩ | ⟨a, ha, rfl, rfl⟩
  · rfl
  · rfl
  · rw [show gA nc ac 2 = 3 + (nc + ac) + 1 from if_pos rfl, O_r]
    rfl
  · rw [show gA nc ac (3 + j) = 3 + j from if_neg (by omega), O_n hj]
  · by_cases h : a < ac
    · rw [show gA nc ac (3 + (nc + a)) = 3 + (nc + a) from if_neg (by omega), O_a h, va_up_ne ar b (by omega), pk_un (by omega), pk_un (by omega), pk_un (by omega)]
    · have e : a = ac := by omega
      subst e
      rw [show gA nc a (3 + (nc + a)) = 3 + (nc + a) + 0 from if_neg (by omega), O_r, va_up_self, pk_us, pk_us, pk_us]
      rfl
theorem pushA_i (i j : Nat) (hi : i < 3 + nc + (ac + 1)) (hj : j < 3 + nc + (ac + 1)) (e : gA nc ac i = gA nc ac j) : i = j := by
  unfold gA at e
  split at e <;> split at e <;> omega
/-- a night less -/
def gC (nc ac t : Nat) (k : Nat) : Nat := if k = 1 then 3 + (nc + ac) + 0 else if k < 3 + t then k else if k = 0 then 0 else if k = 2 then 2 else k + 1
theorem cut_g {q t : Nat} (ht : t < nc) (k : Nat) (x : Nat × va_E) (hk : (wS cI cR (rr r 1 q) (shN nr t) ar tc (nc - 1) ac ch (shf U t (nc - 1)) (shf Z t (nc - 1)) B L F)[k]? = some x) :
    (((r 0, .inr (1, [.int (nI tc), .ref q, .ref (r 2), .int ch])) :: x1 :: (r 2, .inl (cR, ac, rf ar)) :: (wN cI nr U Z nc ++ wA cI ar B L F ac)) ++ [(q, .inl (cR, nc - 1, rf (shN nr t)))])[gC nc ac t k]? = some x := by
  rcases wS_inv hk with ⟨rfl, rfl⟩ | ⟨rfl, rfl⟩ | ⟨rfl, rfl⟩ | ⟨j, hj, rfl, rfl⟩ | ⟨a, ha, rfl, rfl⟩
  · rw [show gC nc ac t 0 = 0 by unfold gC; rw [if_neg (by decide), if_pos (by omega)]]
    rfl
  · rw [show gC nc ac t 1 = 3 + (nc + ac) + 0 from if_pos rfl, O_r]
    rfl
  · rw [show gC nc ac t 2 = 2 by unfold gC; rw [if_neg (by decide), if_pos (by omega)]]
    rfl
  · rw [shN_shf U t (nc - 1) hj, shN_shf Z t (nc - 1) hj]
    by_cases h : j < t
    · rw [show gC nc ac t (3 + j) = 3 + j by unfold gC; rw [if_neg (by omega), if_pos (by omega)], O_n (by omega), if_pos h, if_pos h, show shN nr t j = nr j from if_pos h]
    · rw [show gC nc ac t (3 + j) = 3 + (j + 1) by unfold gC; rw [if_neg (by omega), if_neg (by omega), if_neg (by omega), if_neg (by omega)]; omega, O_n (by omega), if_neg h, if_neg h, show shN nr t j = nr (j + 1) from if_neg h]
  · rw [show gC nc ac t (3 + (nc - 1 + a)) = 3 + (nc + a) by unfold gC; rw [if_neg (by omega), if_neg (by omega), if_neg (by omega), if_neg (by omega)]; omega, O_a ha]
theorem cut_i {t : Nat} (ht : t < nc) (i j : Nat) (hi : i < 3 + (nc - 1) + ac) (hj : j < 3 + (nc - 1) + ac) (e : gC nc ac t i = gC nc ac t j) : i = j := by
  unfold gC at e
  repeat' (split at e)
  all_goals omega
end RE
