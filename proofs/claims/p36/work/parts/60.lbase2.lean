/-! ===== both quarrels side by side; what the law's own methods stand on ===== -/
abbrev tyL (cI cZ cR : ClassId) : List (ClassId × FieldType) := [(cI, .int), (cZ, .boolean), (cR, arrO)]
theorem up_rD {A : Nat → Prop} {D : va_G} {cl : List vw_C} {wl w w1 : va_W} {H : Heap} (hP : va_P D cl (wl ++ w) H) (hD : va_D A (wl ++ w)) (hF : ∀ z, va_A w H.size z → A z) (h1 : va_D (va_A w H.size) w1) : va_D A (wl ++ w1) := by
  refine (D_lA hD).app (h1.weaken (fun k q hk h => hF _ h)) (fun i j x y hx hy e => ?_)
  have hlx := (List.getElem?_eq_some_iff.mp hx).1
  have hix : (wl ++ w)[i]? = some x := by rw [List.getElem?_append_left hlx]; exact hx
  have hy2 := h1.2 j y hy
  rcases hy2 with ⟨k2, e2, h2⟩ | h2
  · have h3 : (wl ++ w)[wl.length + k2]? = some (y.1, e2) := by rw [List.getElem?_append_right (Nat.le_add_right _ _), Nat.add_sub_cancel_left]; exact h2
    have h4 := hD.1 _ _ _ _ hix h3 e
    omega
  · have := (hP _ _ hix).lt
    omega
section FORK
variable {p : Program} {l : Launch} {e : Env} {R : Room} {s : State} {m : MethodId} {args : Array Value} {below : List Frame} {meth : Method} {c : Code} {H : Heap} {locs : List Loc} {cells slots : Nat} {Q : State → Prop}
/-- roads that meet -/
theorem lv_fork {α : Type} (F : α → JFrame) {g : JFrame} (k : ∀ a, W p l e R s m args below meth c H locs cells slots Q (F a)) (h : (∀ a, W p l e R s m args below meth c H locs cells slots Q (F a)) → W p l e R s m args below meth c H locs cells slots Q g) : W p l e R s m args below meth c H locs cells slots Q g := h k
end FORK
/-- a number below n, of any int -/
def bw (v : Int32) (n : Nat) : Nat := v.toBitVec.toNat % 2 ^ 31 % n
theorem bw_lt (v : Int32) {n : Nat} (h : 0 < n) : bw v n < n := Nat.mod_lt _ h
theorem bw_and (v : Int32) : v &&& 2147483647 = nI (v.toBitVec.toNat % 2 ^ 31) := pk_and v 31 (by decide +kernel)
theorem bw_rem (v : Int32) {n : Nat} (h0 : 0 < n) (hn : n < 2 ^ 31) : nI (v.toBitVec.toNat % 2 ^ 31) - nI (v.toBitVec.toNat % 2 ^ 31) / nI n * nI n = nI (bw v n) := pk_rem (Nat.mod_lt _ (by decide)) h0 hn
/-- a cell of the script, or what stands for it -/
def cv (xs : Nat → Int32) (N j : Nat) : Int32 := if j < N then xs j else 790386105 * (nI j + 3)
abbrev sX (b N : Nat) (xs : Nat → Int32) (H : Heap) : State → Prop := fun U => U.heap = H ∧ va_X b N xs U H
theorem sX_blind {b N : Nat} {xs : Nat → Int32} {H : Heap} {av : List Value} : FrameBlind (va_Pc av (sX b N xs H)) := by
  intro a U g mk q
  obtain ⟨q1, q2, q3⟩ := q
  exact ⟨q1, q2, va_X.moved (u := U) (U := U.calling g mk a) (Vm.Alike.refl U.vm) q3⟩
theorem sX_pre {s : State} {b N : Nat} {xs : Nat → Int32} {H : Heap} {av : List Value} (hX : va_X b N xs s H) : ∀ U : State, U.heap = H → s.WarmedH U.vm → va_Pc av (sX b N xs H) av.toArray U := fun U hU hW => ⟨rfl, hU, va_X.moved hW.alike hX⟩
/-- what holds of every state of a quarrel -/
def Gd (tc nc ac : Nat) (U B L F : Nat → Int32) : Prop := (1 ≤ tc ∧ tc ≤ 8) ∧ nc ≤ 40 ∧ ac ≤ 8 ∧ (∀ j, ∃ k, k < pw tc ∧ U j = nI k) ∧ (∀ a, ∃ k, k < pw tc ∧ B a = nI k) ∧ (∀ a, ∃ k, k ≤ 5 ∧ L a = nI k) ∧ (∀ a, ∃ k, k ≤ 5 ∧ F a = nI k)
theorem up_all {P : Int32 → Prop} {f : Nat → Int32} {a : Nat} {x : Int32} (h : ∀ j, P (f j)) (hx : P x) : ∀ j, P (upd f a x j) := fun j => by
  by_cases e : j = a
  · subst e; rw [pk_us]; exact hx
  · rw [pk_un e]; exact h j
theorem mrg_all {P : Int32 → Prop} {f g : Nat → Int32} {n : Nat} (h : ∀ j, P (f j)) (hx : ∀ j, P (g j)) : ∀ j, P (mrg f g n j) := fun j => by
  unfold mrg
  split
  · exact h j
  · exact hx j
theorem shf_all {P : Int32 → Prop} {f : Nat → Int32} {g i : Nat} (h : ∀ j, P (f j)) : ∀ j, P (shf f g i j) := fun j => by
  unfold shf
  split
  · exact h (j + 1)
  · exact h j
section GD
variable {tc nc ac : Nat} {U B L F : Nat → Int32}
theorem pw_mono {a b : Nat} (h : a ≤ b) : pw a ≤ pw b := Nat.pow_le_pow_right (by decide) h
theorem gd_thing (h : Gd tc nc ac U B L F) (h8 : tc < 8) : Gd (tc + 1) nc ac U B L F := by
  obtain ⟨⟨h1, h2⟩, h3, h4, h5, h6, h7, h9⟩ := h
  have hm := pw_mono (Nat.le_succ tc)
  exact ⟨⟨by omega, by omega⟩, h3, h4, fun j => by obtain ⟨k, hk, e⟩ := h5 j; exact ⟨k, Nat.lt_of_lt_of_le hk hm, e⟩, fun j => by obtain ⟨k, hk, e⟩ := h6 j; exact ⟨k, Nat.lt_of_lt_of_le hk hm, e⟩, h7, h9⟩
theorem gd_astr (h : Gd tc nc ac U B L F) (h8 : ac < 8) {v : Nat} (hv : v ≤ 5) : Gd tc nc (ac + 1) U (upd B ac 0) (upd L ac (nI v)) (upd F ac (nI v)) := by
  obtain ⟨⟨h1, h2⟩, h3, h4, h5, h6, h7, h9⟩ := h
  have hpw := pw_in h2
  exact ⟨⟨h1, h2⟩, h3, h8, h5, up_all (P := fun x => ∃ k, k < pw tc ∧ x = nI k) h6 ⟨0, by omega, nI_0.symm⟩, up_all (P := fun x => ∃ k, k ≤ 5 ∧ x = nI k) h7 ⟨v, hv, rfl⟩, up_all (P := fun x => ∃ k, k ≤ 5 ∧ x = nI k) h9 ⟨v, hv, rfl⟩⟩
theorem gd_blame (h : Gd tc nc ac U B L F) {a k : Nat} (hk : k < pw tc) : Gd tc nc ac U (upd B a (nI k)) (upd L a (F a)) F := by
  obtain ⟨h1, h3, h4, h5, h6, h7, h9⟩ := h
  exact ⟨h1, h3, h4, h5, up_all (P := fun x => ∃ k, k < pw tc ∧ x = nI k) h6 ⟨k, hk, rfl⟩, up_all (P := fun x => ∃ k, k ≤ 5 ∧ x = nI k) h7 (h9 a), h9⟩
theorem gd_strike (h : Gd tc nc ac U B L F) (t : Nat) : Gd tc (nc - 1) ac (shf U t (nc - 1)) B L F := by
  obtain ⟨h1, h3, h4, h5, h6, h7, h9⟩ := h
  exact ⟨h1, by omega, h4, shf_all (P := fun x => ∃ k, k < pw tc ∧ x = nI k) h5, h6, h7, h9⟩
theorem gd_write (h : Gd tc nc ac U B L F) (h40 : nc < 40) {k : Nat} (hk : k < pw tc) (z : Bool) {p : Nat → Bool} : Gd tc (nc + 1) ac (upd U nc (nI k)) (mrg (sB B L (nI k) z ((spx p (pw tc)).1)) B ac) (mrg (sL B L F (nI k) z ((spx p (pw tc)).1)) L ac) F := by
  obtain ⟨⟨h1, h2⟩, h3, h4, h5, h6, h7, h9⟩ := h
  have hpw := pw_in h2
  refine ⟨⟨h1, h2⟩, h40, h4, hU_upd h5 hk, mrg_all (P := fun x => ∃ k, k < pw tc ∧ x = nI k) (fun a => ?_) h6, mrg_all (P := fun x => ∃ k, k ≤ 5 ∧ x = nI k) (fun a => ?_) h7, h9⟩
  · show ∃ k9, k9 < pw tc ∧ sB B L (nI k) z ((spx p (pw tc)).1) a = nI k9
    unfold sB
    split
    · exact h6 a
    · split
      · exact h6 a
      · split
        · exact h6 a
        · rename_i hne
          rcases spx_best p (pw tc) hpw.2 with ⟨e, -⟩ | ⟨k9, hk9, e, -⟩
          · exact absurd e hne
          · exact ⟨k9, hk9, e⟩
  · show ∃ k9, k9 ≤ 5 ∧ sL B L F (nI k) z ((spx p (pw tc)).1) a = nI k9
    unfold sL
    split
    · exact h7 a
    · split
      · rename_i hne
        obtain ⟨v, hv, e⟩ := h7 a
        rw [e] at hne ⊢
        have hv0 : v ≠ 0 := fun w => hne (by rw [w]; decide)
        exact ⟨v - 1, by omega, by rw [show v = (v - 1) + 1 by omega, nI_pred]; rfl⟩
      · split
        · exact h7 a
        · exact h9 a
end GD
/-- both quarrels, in one state -/
def XS (D : va_G) (cI cZ cR : ClassId) (q : Nat → Nat) (r0 : Nat) (A : Nat → Prop) (H : Heap) : Prop :=
  ∃ (tc nc ac : Nat) (ch : Int32) (U : Nat → Int32) (Z : Nat → Bool) (B L F : Nat → Int32) (r nr ar : Nat → Nat), r 0 = r0 ∧ Gd tc nc ac U B L F ∧ va_P D vwCl (wX cI cZ q tc nc ac ch U Z B L F ++ wS cI cR r nr ar tc nc ac ch U Z B L F) H ∧ va_D A (wX cI cZ q tc nc ac ch U Z B L F ++ wS cI cR r nr ar tc nc ac ch U Z B L F)
theorem nI_sub1 (n : Nat) : nI (n + 1) - 1 = nI n := nI_pred n
theorem fI_le {v : Nat} (h : v ≤ 5) : nI v ≤ 5 := nI_le (b := 5) h (by decide)
