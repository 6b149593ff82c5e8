/-! SmudgedStarModel: contracts of its methods -/
set_option maxHeartbeats 4000000 in
set_option maxRecDepth 100000 in
theorem w_M_no (l : Launch) {D : va_G} {cI cZ : ClassId} {r : Nat → Nat} {th : Int32} {tc nc ac : Nat} {ch : Int32} {U : Nat → Int32} {Z : Nat → Bool} {B L F : Nat → Int32} {H : Heap} (hP : va_P D vwCl (wM cI cZ r th tc nc ac ch U Z B L F) H) (htc : tc ≤ 8) (hnc : nc ≤ 40) (hac : ac ≤ 8) (hD0 : va_D (fun _ => True) (wM cI cZ r th tc nc ac ch U Z B L F)) {v : Int32} : Met l yX1_no wsX1_no ({ frames := 0, cells := 0, slots := 0, locals := 0 }) (va_Pc [.ref (r 0), .int v] (rd D vwCl (tyA cI cZ) H)) (va_Qi (fun r (_ : Unit) => r = 0) (fun _ t8 => va_P D vwCl (wM cI cZ r v tc nc ac ch U Z B L F) t8.heap) (va_A (wM cI cZ r th tc nc ac ch U Z B L F) H.size)) 0 0 (va_A (wM cI cZ r th tc nc ac ch U Z B L F) H.size) := by
  refine Met.ofW (cc := cX1_no) (maxL := 2) (ret := (some .int)) (by decide) rfl ?_
  intro p e s m args below meth c s₁ B9 hml hv
  obtain ⟨rfl, hH, hK⟩ := hv
  subst hH
  have hx := B9.exec
  have hb := B9.bytes
  have hr := B9.returns
  have hts := atoms_spec (ws := wsX1_no) B9.pre
  have hown : s.vm.findClass RX1 = some m.cls := findClass_of_methodNamed B9.named
  have hlocks := B9.notSynchronized
  have hin : ∀ w ∈ u_ws RX1 TX1 10, w ∈ wsX1_no := fun w h => List.mem_cons_of_mem _ (List.mem_append_right _ h)
  have hD0 := hD0.self (sz := s.heap.size)
  generalize hAe : va_A (wM cI cZ r th tc nc ac ch U Z B L F) s.heap.size = A at hD0 ⊢
  have hA : ∀ q : Nat, s.heap.size ≤ q → A q := fun q h => by rw [← hAe]; exact Or.inr h
  have hS : va_S A s.heap s.heap [] := va_S.rf
  have hD := hD0
  have hl := lv_entry ([.ref (r 0), .int v]) (n := 2) (Nat.le_of_ble_eq_true rfl)
  rw [lg_entry_eq]
  generalize (lg_sl ([.ref (r 0), .int v]) ++ List.replicate (2 - (lg_sl ([.ref (r 0), .int v])).length) Slot.unset).toArray = ls at hl ⊢
  have hl : lv_has ls 2 [(0, .ref (r 0)), (1, .int v)] := hl
  refine lv_aload_n hx hb dX1_no_0 rfl (lv_at hl 0 rfl) ?_
  refine lv_iload_n hx hb dX1_no_1 rfl (lv_at hl 1 rfl) ?_
  refine va_put (D := D) (ci := 1) (v := .int v) (ty := .int) (C := RX1) (T := TX1) (N := 10) hx hb hts hin tyX1 tyX1_ok nmX1 hown hK hP hD hS 0 rfl rfl 0 (by decide) (hts (.fieldLink RX1 26 "SmudgedStarModel" "thrown" "I") (List.mem_of_getElem? (i := 1) rfl)) (fun _ h9 => h9) rfl (by decide +kernel) rfl rfl (Nat.le_of_ble_eq_true rfl) dX1_no_2 (fun H locs hP hD hS => ?_)
  have hP : va_P D vwCl (wM cI cZ r v tc nc ac ch U Z B L F) H := hP
  have hD : va_D A (wM cI cZ r v tc nc ac ch U Z B L F) := va_D_re hD rfl
  refine lv_iconst (v := 0) hx hb dX1_no_5 (by decide) ?_
  have hPe : va_P D vwCl (wM cI cZ r v tc nc ac ch U Z B L F) H := hP
  exact W.iret (v := 0) hx hb hr (fun t9 ht9 hW9 => ⟨⟨0, (), rfl, rfl, by show va_P D vwCl _ t9.heap; rw [ht9]; exact hPe⟩, hS.F ht9⟩) hS.2.2 dX1_no_6
set_option maxHeartbeats 4000000 in
set_option maxRecDepth 100000 in
theorem w_M_isNot (l : Launch) {D : va_G} {cI cZ : ClassId} {r : Nat → Nat} {th : Int32} {tc nc ac : Nat} {ch : Int32} {U : Nat → Int32} {Z : Nat → Bool} {B L F : Nat → Int32} {H : Heap} (hP : va_P D vwCl (wM cI cZ r th tc nc ac ch U Z B L F) H) (htc : tc ≤ 8) (hnc : nc ≤ 40) (hac : ac ≤ 8) (hD0 : va_D (fun _ => True) (wM cI cZ r th tc nc ac ch U Z B L F)) {v : Int32} : Met l yX1_isNot wsX1_isNot ({ frames := 0, cells := 0, slots := 0, locals := 0 }) (va_Pc [.ref (r 0), .int v] (rd D vwCl (tyA cI cZ) H)) (va_Qi (fun r (_ : Unit) => r = 0) (fun _ t8 => va_P D vwCl (wM cI cZ r v tc nc ac ch U Z B L F) t8.heap) (va_A (wM cI cZ r th tc nc ac ch U Z B L F) H.size)) 0 0 (va_A (wM cI cZ r th tc nc ac ch U Z B L F) H.size) := by
  refine Met.ofW (cc := cX1_isNot) (maxL := 2) (ret := (some .boolean)) (by decide) rfl ?_
  intro p e s m args below meth c s₁ B9 hml hv
  obtain ⟨rfl, hH, hK⟩ := hv
  subst hH
  have hx := B9.exec
  have hb := B9.bytes
  have hr := B9.returns
  have hts := atoms_spec (ws := wsX1_isNot) B9.pre
  have hown : s.vm.findClass RX1 = some m.cls := findClass_of_methodNamed B9.named
  have hlocks := B9.notSynchronized
  have hin : ∀ w ∈ u_ws RX1 TX1 10, w ∈ wsX1_isNot := fun w h => List.mem_cons_of_mem _ (List.mem_append_right _ h)
  have hD0 := hD0.self (sz := s.heap.size)
  generalize hAe : va_A (wM cI cZ r th tc nc ac ch U Z B L F) s.heap.size = A at hD0 ⊢
  have hA : ∀ q : Nat, s.heap.size ≤ q → A q := fun q h => by rw [← hAe]; exact Or.inr h
  have hS : va_S A s.heap s.heap [] := va_S.rf
  have hD := hD0
  have hl := lv_entry ([.ref (r 0), .int v]) (n := 2) (Nat.le_of_ble_eq_true rfl)
  rw [lg_entry_eq]
  generalize (lg_sl ([.ref (r 0), .int v]) ++ List.replicate (2 - (lg_sl ([.ref (r 0), .int v])).length) Slot.unset).toArray = ls at hl ⊢
  have hl : lv_has ls 2 [(0, .ref (r 0)), (1, .int v)] := hl
  refine lv_aload_n hx hb dX1_isNot_0 rfl (lv_at hl 0 rfl) ?_
  refine lv_iload_n hx hb dX1_isNot_1 rfl (lv_at hl 1 rfl) ?_
  refine va_put (D := D) (ci := 1) (v := .int v) (ty := .int) (C := RX1) (T := TX1) (N := 10) hx hb hts hin tyX1 tyX1_ok nmX1 hown hK hP hD hS 0 rfl rfl 0 (by decide) (hts (.fieldLink RX1 26 "SmudgedStarModel" "thrown" "I") (List.mem_of_getElem? (i := 1) rfl)) (fun _ h9 => h9) rfl (by decide +kernel) rfl rfl (Nat.le_of_ble_eq_true rfl) dX1_isNot_2 (fun H locs hP hD hS => ?_)
  have hP : va_P D vwCl (wM cI cZ r v tc nc ac ch U Z B L F) H := hP
  have hD : va_D A (wM cI cZ r v tc nc ac ch U Z B L F) := va_D_re hD rfl
  refine lv_iconst (v := 0) hx hb dX1_isNot_5 (by decide) ?_
  have hPe : va_P D vwCl (wM cI cZ r v tc nc ac ch U Z B L F) H := hP
  exact W.zret (v := 0) (ty := .boolean) hx hb hr (rfl) (fun t9 ht9 hW9 => ⟨⟨0, (), rfl, rfl, by show va_P D vwCl _ t9.heap; rw [ht9]; exact hPe⟩, hS.F ht9⟩) hS.2.2 dX1_isNot_6
set_option maxHeartbeats 4000000 in
set_option maxRecDepth 100000 in
theorem w_M_ok (l : Launch) {D : va_G} {cI cZ : ClassId} {r : Nat → Nat} {th : Int32} {tc nc ac : Nat} {ch : Int32} {U : Nat → Int32} {Z : Nat → Bool} {B L F : Nat → Int32} {H : Heap} (hP : va_P D vwCl (wM cI cZ r th tc nc ac ch U Z B L F) H) (htc : tc ≤ 8) (hnc : nc ≤ 40) (hac : ac ≤ 8) (hD0 : va_D (fun _ => True) (wM cI cZ r th tc nc ac ch U Z B L F)) {v : Int32} : Met l yX1_ok wsX1_ok ({ frames := 0, cells := 0, slots := 0, locals := 0 }) (va_Pc [.ref (r 0), .int v] (rd D vwCl (tyA cI cZ) H)) (va_Qi (fun r (_ : Unit) => r = v) (fun _ t8 => va_P D vwCl (wM cI cZ r 0 tc nc ac ch U Z B L F) t8.heap) (va_A (wM cI cZ r th tc nc ac ch U Z B L F) H.size)) 0 0 (va_A (wM cI cZ r th tc nc ac ch U Z B L F) H.size) := by
  refine Met.ofW (cc := cX1_ok) (maxL := 2) (ret := (some .int)) (by decide) rfl ?_
  intro p e s m args below meth c s₁ B9 hml hv
  obtain ⟨rfl, hH, hK⟩ := hv
  subst hH
  have hx := B9.exec
  have hb := B9.bytes
  have hr := B9.returns
  have hts := atoms_spec (ws := wsX1_ok) B9.pre
  have hown : s.vm.findClass RX1 = some m.cls := findClass_of_methodNamed B9.named
  have hlocks := B9.notSynchronized
  have hin : ∀ w ∈ u_ws RX1 TX1 10, w ∈ wsX1_ok := fun w h => List.mem_cons_of_mem _ (List.mem_append_right _ h)
  have hD0 := hD0.self (sz := s.heap.size)
  generalize hAe : va_A (wM cI cZ r th tc nc ac ch U Z B L F) s.heap.size = A at hD0 ⊢
  have hA : ∀ q : Nat, s.heap.size ≤ q → A q := fun q h => by rw [← hAe]; exact Or.inr h
  have hS : va_S A s.heap s.heap [] := va_S.rf
  have hD := hD0
  have hl := lv_entry ([.ref (r 0), .int v]) (n := 2) (Nat.le_of_ble_eq_true rfl)
  rw [lg_entry_eq]
  generalize (lg_sl ([.ref (r 0), .int v]) ++ List.replicate (2 - (lg_sl ([.ref (r 0), .int v])).length) Slot.unset).toArray = ls at hl ⊢
  have hl : lv_has ls 2 [(0, .ref (r 0)), (1, .int v)] := hl
  refine lv_aload_n hx hb dX1_ok_0 rfl (lv_at hl 0 rfl) ?_
  refine lv_iconst (v := 0) hx hb dX1_ok_1 (by decide) ?_
  refine va_put (D := D) (ci := 1) (v := .int 0) (ty := .int) (C := RX1) (T := TX1) (N := 10) hx hb hts hin tyX1 tyX1_ok nmX1 hown hK hP hD hS 0 rfl rfl 0 (by decide) (hts (.fieldLink RX1 26 "SmudgedStarModel" "thrown" "I") (List.mem_of_getElem? (i := 1) rfl)) (fun _ h9 => h9) rfl (by decide +kernel) rfl rfl (Nat.le_of_ble_eq_true rfl) dX1_ok_2 (fun H locs hP hD hS => ?_)
  have hP : va_P D vwCl (wM cI cZ r 0 tc nc ac ch U Z B L F) H := hP
  have hD : va_D A (wM cI cZ r 0 tc nc ac ch U Z B L F) := va_D_re hD rfl
  refine lv_iload_n hx hb dX1_ok_5 rfl (lv_at hl 1 rfl) ?_
  have hPe : va_P D vwCl (wM cI cZ r 0 tc nc ac ch U Z B L F) H := hP
  exact W.iret (v := v) hx hb hr (fun t9 ht9 hW9 => ⟨⟨v, (), rfl, rfl, by show va_P D vwCl _ t9.heap; rw [ht9]; exact hPe⟩, hS.F ht9⟩) hS.2.2 dX1_ok_6
set_option maxHeartbeats 4000000 in
set_option maxRecDepth 100000 in
theorem w_M_think (l : Launch) {D : va_G} {cI cZ : ClassId} {r : Nat → Nat} {th : Int32} {tc nc ac : Nat} {ch : Int32} {U : Nat → Int32} {Z : Nat → Bool} {B L F : Nat → Int32} {H : Heap} (hP : va_P D vwCl (wM cI cZ r th tc nc ac ch U Z B L F) H) (htc : tc ≤ 8) (hnc : nc ≤ 40) (hac : ac ≤ 8) (hD0 : va_D (fun _ => True) (wM cI cZ r th tc nc ac ch U Z B L F)) {a : Nat} {v : Int32} (ha : a < 8) : Met l yX1_think wsX1_think ({ frames := 0, cells := 0, slots := 0, locals := 0 }) (va_Pc [.ref (r 0), .int (nI a), .int v] (rd D vwCl (tyA cI cZ) H)) (va_Qv (fun (_ : Unit) => True) (fun _ t8 => va_P D vwCl (wM cI cZ r th tc nc ac ch U Z (upd B a v) (upd L a (F a)) F) t8.heap) (va_A (wM cI cZ r th tc nc ac ch U Z B L F) H.size)) 0 0 (va_A (wM cI cZ r th tc nc ac ch U Z B L F) H.size) := by
  refine Met.ofW (cc := cX1_think) (maxL := 3) (ret := none) (by decide) rfl ?_
  intro p e s m args below meth c s₁ B9 hml hv
  obtain ⟨rfl, hH, hK⟩ := hv
  subst hH
  have hx := B9.exec
  have hb := B9.bytes
  have hr := B9.returns
  have hts := atoms_spec (ws := wsX1_think) B9.pre
  have hown : s.vm.findClass RX1 = some m.cls := findClass_of_methodNamed B9.named
  have hlocks := B9.notSynchronized
  have hin : ∀ w ∈ u_ws RX1 TX1 10, w ∈ wsX1_think := fun w h => List.mem_cons_of_mem _ (List.mem_append_right _ h)
  have hD0 := hD0.self (sz := s.heap.size)
  generalize hAe : va_A (wM cI cZ r th tc nc ac ch U Z B L F) s.heap.size = A at hD0 ⊢
  have hA : ∀ q : Nat, s.heap.size ≤ q → A q := fun q h => by rw [← hAe]; exact Or.inr h
  have hS : va_S A s.heap s.heap [] := va_S.rf
  have hD := hD0
  have hl := lv_entry ([.ref (r 0), .int (nI a), .int v]) (n := 3) (Nat.le_of_ble_eq_true rfl)
  rw [lg_entry_eq]
  generalize (lg_sl ([.ref (r 0), .int (nI a), .int v]) ++ List.replicate (3 - (lg_sl ([.ref (r 0), .int (nI a), .int v])).length) Slot.unset).toArray = ls at hl ⊢
  have hl : lv_has ls 3 [(0, .ref (r 0)), (1, .int (nI a)), (2, .int v)] := hl
  refine lv_aload_n hx hb dX1_think_0 rfl (lv_at hl 0 rfl) ?_
  refine va_get (D := D) (ci := 1) (v := .ref (r 5)) (C := RX1) (T := TX1) (N := 10) hx hb hts hin hown hK hP 0 rfl rfl 8 (by decide) (hts (.fieldLink RX1 23 "SmudgedStarModel" "blames" "[I") (List.mem_of_getElem? (i := 1) rfl)) (fun _ h9 => h9) rfl dX1_think_1 ?_
  refine lv_iload_n hx hb dX1_think_4 rfl (lv_at hl 1 rfl) ?_
  refine lv_iload_n hx hb dX1_think_5 rfl (lv_at hl 2 rfl) ?_
  refine ia_st hx hb hK hP hD hS 5 0 rfl rfl (j := a) (by omega) (by decide) dX1_think_6 (fun H locs hP hS => ?_)
  have hP : va_P D vwCl (wM cI cZ r th tc nc ac ch U Z (upd B a v) L F) H := hP
  have hD : va_D A (wM cI cZ r th tc nc ac ch U Z (upd B a v) L F) := va_D_re hD rfl
  refine lv_aload_n hx hb dX1_think_7 rfl (lv_at hl 0 rfl) ?_
  refine va_get (D := D) (ci := 1) (v := .ref (r 4)) (C := RX1) (T := TX1) (N := 10) hx hb hts hin hown hK hP 0 rfl rfl 7 (by decide) (hts (.fieldLink RX1 20 "SmudgedStarModel" "left" "[I") (List.mem_of_getElem? (i := 2) rfl)) (fun _ h9 => h9) rfl dX1_think_8 ?_
  refine lv_iload_n hx hb dX1_think_11 rfl (lv_at hl 1 rfl) ?_
  refine lv_aload_n hx hb dX1_think_12 rfl (lv_at hl 0 rfl) ?_
  refine va_get (D := D) (ci := 1) (v := .ref (r 3)) (C := RX1) (T := TX1) (N := 10) hx hb hts hin hown hK hP 0 rfl rfl 6 (by decide) (hts (.fieldLink RX1 17 "SmudgedStarModel" "first" "[I") (List.mem_of_getElem? (i := 3) rfl)) (fun _ h9 => h9) rfl dX1_think_13 ?_
  refine lv_iload_n hx hb dX1_think_16 rfl (lv_at hl 1 rfl) ?_
  refine ia_ld hx hb hK hP 3 0 rfl rfl (j := a) (by omega) (by decide) dX1_think_17 ?_
  refine ia_st hx hb hK hP hD hS 4 0 rfl rfl (j := a) (by omega) (by decide) dX1_think_18 (fun H locs hP hS => ?_)
  have hP : va_P D vwCl (wM cI cZ r th tc nc ac ch U Z (upd B a v) (upd L a (F a)) F) H := hP
  have hD : va_D A (wM cI cZ r th tc nc ac ch U Z (upd B a v) (upd L a (F a)) F) := va_D_re hD rfl
  have hPe : va_P D vwCl (wM cI cZ r th tc nc ac ch U Z (upd B a v) (upd L a (F a)) F) H := hP
  exact W.vret hx hb hr (fun t9 ht9 hW9 => ⟨⟨(), rfl, trivial, by show va_P D vwCl _ t9.heap; rw [ht9]; exact hPe⟩, hS.F ht9⟩) hS.2.2 dX1_think_19
set_option maxHeartbeats 4000000 in
set_option maxRecDepth 100000 in
theorem w_M_put (l : Launch) {D : va_G} {cI cZ : ClassId} {r : Nat → Nat} {th : Int32} {tc nc ac : Nat} {ch : Int32} {U : Nat → Int32} {Z : Nat → Bool} {B L F : Nat → Int32} {H : Heap} (hP : va_P D vwCl (wM cI cZ r th tc nc ac ch U Z B L F) H) (htc : tc ≤ 8) (hnc : nc ≤ 40) (hac : ac ≤ 8) (hD0 : va_D (fun _ => True) (wM cI cZ r th tc nc ac ch U Z B L F)) {u : Int32} {z : Bool} (h40 : nc < 40) : Met l yX1_put wsX1_put ({ frames := 0, cells := 0, slots := 0, locals := 0 }) (va_Pc [.ref (r 0), .int u, .int (bI z)] (rd D vwCl (tyA cI cZ) H)) (va_Qv (fun (_ : Unit) => True) (fun _ t8 => va_P D vwCl (wM cI cZ r th tc (nc + 1) ac ch (upd U nc u) (updB Z nc z) B L F) t8.heap) (va_A (wM cI cZ r th tc nc ac ch U Z B L F) H.size)) 0 0 (va_A (wM cI cZ r th tc nc ac ch U Z B L F) H.size) := by
  refine Met.ofW (cc := cX1_put) (maxL := 3) (ret := none) (by decide) rfl ?_
  intro p e s m args below meth c s₁ B9 hml hv
  obtain ⟨rfl, hH, hK⟩ := hv
  subst hH
  have hx := B9.exec
  have hb := B9.bytes
  have hr := B9.returns
  have hts := atoms_spec (ws := wsX1_put) B9.pre
  have hown : s.vm.findClass RX1 = some m.cls := findClass_of_methodNamed B9.named
  have hlocks := B9.notSynchronized
  have hin : ∀ w ∈ u_ws RX1 TX1 10, w ∈ wsX1_put := fun w h => List.mem_cons_of_mem _ (List.mem_append_right _ h)
  have hD0 := hD0.self (sz := s.heap.size)
  generalize hAe : va_A (wM cI cZ r th tc nc ac ch U Z B L F) s.heap.size = A at hD0 ⊢
  have hA : ∀ q : Nat, s.heap.size ≤ q → A q := fun q h => by rw [← hAe]; exact Or.inr h
  have hS : va_S A s.heap s.heap [] := va_S.rf
  have hD := hD0
  have hl := lv_entry ([.ref (r 0), .int u, .int (bI z)]) (n := 3) (Nat.le_of_ble_eq_true rfl)
  rw [lg_entry_eq]
  generalize (lg_sl ([.ref (r 0), .int u, .int (bI z)]) ++ List.replicate (3 - (lg_sl ([.ref (r 0), .int u, .int (bI z)])).length) Slot.unset).toArray = ls at hl ⊢
  have hl : lv_has ls 3 [(0, .ref (r 0)), (1, .int u), (2, .int (bI z))] := hl
  refine lv_aload_n hx hb dX1_put_0 rfl (lv_at hl 0 rfl) ?_
  refine va_get (D := D) (ci := 1) (v := .ref (r 1)) (C := RX1) (T := TX1) (N := 10) hx hb hts hin hown hK hP 0 rfl rfl 3 (by decide) (hts (.fieldLink RX1 9 "SmudgedStarModel" "used" "[I") (List.mem_of_getElem? (i := 1) rfl)) (fun _ h9 => h9) rfl dX1_put_1 ?_
  refine lv_aload_n hx hb dX1_put_4 rfl (lv_at hl 0 rfl) ?_
  refine va_get (D := D) (ci := 1) (v := .int (nI nc)) (C := RX1) (T := TX1) (N := 10) hx hb hts hin hown hK hP 0 rfl rfl 2 (by decide) (hts (.fieldLink RX1 37 "SmudgedStarModel" "nights" "I") (List.mem_of_getElem? (i := 2) rfl)) (fun _ h9 => h9) rfl dX1_put_5 ?_
  refine lv_iload_n hx hb dX1_put_8 rfl (lv_at hl 1 rfl) ?_
  refine ia_st hx hb hK hP hD hS 1 0 rfl rfl (j := nc) (by omega) (by decide) dX1_put_9 (fun H locs hP hS => ?_)
  have hP : va_P D vwCl (wM cI cZ r th tc nc ac ch (upd U nc u) Z B L F) H := hP
  have hD : va_D A (wM cI cZ r th tc nc ac ch (upd U nc u) Z B L F) := va_D_re hD rfl
  refine lv_aload_n hx hb dX1_put_10 rfl (lv_at hl 0 rfl) ?_
  refine va_get (D := D) (ci := 1) (v := .ref (r 2)) (C := RX1) (T := TX1) (N := 10) hx hb hts hin hown hK hP 0 rfl rfl 4 (by decide) (hts (.fieldLink RX1 13 "SmudgedStarModel" "smudged" "[Z") (List.mem_of_getElem? (i := 3) rfl)) (fun _ h9 => h9) rfl dX1_put_11 ?_
  refine lv_aload_n hx hb dX1_put_14 rfl (lv_at hl 0 rfl) ?_
  refine va_get (D := D) (ci := 1) (v := .int (nI nc)) (C := RX1) (T := TX1) (N := 10) hx hb hts hin hown hK hP 0 rfl rfl 2 (by decide) (hts (.fieldLink RX1 37 "SmudgedStarModel" "nights" "I") (List.mem_of_getElem? (i := 2) rfl)) (fun _ h9 => h9) rfl dX1_put_15 ?_
  refine lv_iload_n hx hb dX1_put_18 rfl (lv_at hl 2 rfl) ?_
  refine za_st (f := Z) hx hb hK hP hD hS 2 1 rfl rfl (j := nc) (by omega) (by decide) dX1_put_19 (fun H locs hP hS => ?_)
  have hP : va_P D vwCl (wM cI cZ r th tc nc ac ch (upd U nc u) (updB Z nc z) B L F) H := hP
  have hD : va_D A (wM cI cZ r th tc nc ac ch (upd U nc u) (updB Z nc z) B L F) := va_D_re hD rfl
  refine lv_aload_n hx hb dX1_put_20 rfl (lv_at hl 0 rfl) ?_
  refine lv_dup hx hb dX1_put_21 rfl ?_
  refine va_get (D := D) (ci := 1) (v := .int (nI nc)) (C := RX1) (T := TX1) (N := 10) hx hb hts hin hown hK hP 0 rfl rfl 2 (by decide) (hts (.fieldLink RX1 37 "SmudgedStarModel" "nights" "I") (List.mem_of_getElem? (i := 2) rfl)) (fun _ h9 => h9) rfl dX1_put_22 ?_
  refine lv_iconst (v := 1) hx hb dX1_put_25 (by decide) ?_
  refine lv_iadd hx hb dX1_put_26 ?_
  refine lv_cst (y := nI (nc + 1)) (nI_1 nc) ?_
  refine va_put (D := D) (ci := 1) (v := .int (nI (nc + 1))) (ty := .int) (C := RX1) (T := TX1) (N := 10) hx hb hts hin tyX1 tyX1_ok nmX1 hown hK hP hD hS 0 rfl rfl 2 (by decide) (hts (.fieldLink RX1 37 "SmudgedStarModel" "nights" "I") (List.mem_of_getElem? (i := 2) rfl)) (fun _ h9 => h9) rfl (by decide +kernel) rfl rfl (Nat.le_of_ble_eq_true rfl) dX1_put_27 (fun H locs hP hD hS => ?_)
  have hP : va_P D vwCl (wM cI cZ r th tc (nc + 1) ac ch (upd U nc u) (updB Z nc z) B L F) H := hP
  have hD : va_D A (wM cI cZ r th tc (nc + 1) ac ch (upd U nc u) (updB Z nc z) B L F) := va_D_re hD rfl
  have hPe : va_P D vwCl (wM cI cZ r th tc (nc + 1) ac ch (upd U nc u) (updB Z nc z) B L F) H := hP
  exact W.vret hx hb hr (fun t9 ht9 hW9 => ⟨⟨(), rfl, trivial, by show va_P D vwCl _ t9.heap; rw [ht9]; exact hPe⟩, hS.F ht9⟩) hS.2.2 dX1_put_30
set_option maxHeartbeats 4000000 in
set_option maxRecDepth 100000 in
theorem w_M_things (l : Launch) {D : va_G} {cI cZ : ClassId} {r : Nat → Nat} {th : Int32} {tc nc ac : Nat} {ch : Int32} {U : Nat → Int32} {Z : Nat → Bool} {B L F : Nat → Int32} {H : Heap} (hP : va_P D vwCl (wM cI cZ r th tc nc ac ch U Z B L F) H) (htc : tc ≤ 8) (hnc : nc ≤ 40) (hac : ac ≤ 8) (hD0 : va_D (fun _ => True) (wM cI cZ r th tc nc ac ch U Z B L F)) : Met l yX1_things wsX1_things ({ frames := 1, cells := 0, slots := 0, locals := 21 }) (va_Pc [.ref (r 0)] (rd D vwCl (tyA cI cZ) H)) (va_Qi (fun r (_ : Unit) => r = nI tc) (fun _ t8 => va_P D vwCl (wM cI cZ r 0 tc nc ac ch U Z B L F) t8.heap) (va_A (wM cI cZ r th tc nc ac ch U Z B L F) H.size)) 0 0 (va_A (wM cI cZ r th tc nc ac ch U Z B L F) H.size) := by
  refine Met.ofW (cc := cX1_things) (maxL := 1) (ret := (some .int)) (by decide) rfl ?_
  intro p e s m args below meth c s₁ B9 hml hv
  obtain ⟨rfl, hH, hK⟩ := hv
  subst hH
  have hx := B9.exec
  have hb := B9.bytes
  have hr := B9.returns
  have hts := atoms_spec (ws := wsX1_things) B9.pre
  have hown : s.vm.findClass RX1 = some m.cls := findClass_of_methodNamed B9.named
  have hlocks := B9.notSynchronized
  have hin : ∀ w ∈ u_ws RX1 TX1 10, w ∈ wsX1_things := fun w h => List.mem_cons_of_mem _ (List.mem_append_right _ h)
  have hD0 := hD0.self (sz := s.heap.size)
  generalize hAe : va_A (wM cI cZ r th tc nc ac ch U Z B L F) s.heap.size = A at hD0 ⊢
  have hA : ∀ q : Nat, s.heap.size ≤ q → A q := fun q h => by rw [← hAe]; exact Or.inr h
  have hS : va_S A s.heap s.heap [] := va_S.rf
  have hD := hD0
  have hl := lv_entry ([.ref (r 0)]) (n := 1) (Nat.le_of_ble_eq_true rfl)
  rw [lg_entry_eq]
  generalize (lg_sl ([.ref (r 0)]) ++ List.replicate (1 - (lg_sl ([.ref (r 0)])).length) Slot.unset).toArray = ls at hl ⊢
  have hl : lv_has ls 1 [(0, .ref (r 0))] := hl
  refine lv_aload_n hx hb dX1_things_0 rfl (lv_at hl 0 rfl) ?_
  refine lv_aload_n hx hb dX1_things_1 rfl (lv_at hl 0 rfl) ?_
  refine va_get (D := D) (ci := 1) (v := .int (nI tc)) (C := RX1) (T := TX1) (N := 10) hx hb hts hin hown hK hP 0 rfl rfl 1 (by decide) (hts (.fieldLink RX1 30 "SmudgedStarModel" "things" "I") (List.mem_of_getElem? (i := 1) rfl)) (fun _ h9 => h9) rfl dX1_things_2 ?_
  refine wcV_i (As := [.int (nI tc)]) (rest := []) ⟨hx, hb, hml, hown, hts⟩ (w_M_ok l hP htc hnc hac (hD.weaken (fun _ _ _ _ => trivial)) (v := nI tc)) (cwV 1 hts gX1_things_X1_ok rfl rfl rfl hdX1_ok ⟨Nat.le_of_ble_eq_true rfl, Nat.le_of_ble_eq_true rfl⟩) (va_recv hK hP (ci := 1) (q0 := 0) rfl rfl) hK hS (va_free_all hD hS hA) rfl hl.1 (Nat.le_of_ble_eq_true rfl) rfl dX1_things_5 ⟨Nat.le_of_ble_eq_true rfl, Nat.le_of_ble_eq_true rfl⟩ (fun H locs hP hz1 hk1 hS => ?_)
  have hP : va_P D vwCl (wM cI cZ r 0 tc nc ac ch U Z B L F) H := hP
  have hD : va_D A (wM cI cZ r 0 tc nc ac ch U Z B L F) := va_D_re hD rfl
  have hPe : va_P D vwCl (wM cI cZ r 0 tc nc ac ch U Z B L F) H := hP
  exact W.iret (v := nI tc) hx hb hr (fun t9 ht9 hW9 => ⟨⟨nI tc, (), rfl, rfl, by show va_P D vwCl _ t9.heap; rw [ht9]; exact hPe⟩, hS.F ht9⟩) hS.2.2 dX1_things_8
set_option maxHeartbeats 4000000 in
set_option maxRecDepth 100000 in
theorem w_M_nights (l : Launch) {D : va_G} {cI cZ : ClassId} {r : Nat → Nat} {th : Int32} {tc nc ac : Nat} {ch : Int32} {U : Nat → Int32} {Z : Nat → Bool} {B L F : Nat → Int32} {H : Heap} (hP : va_P D vwCl (wM cI cZ r th tc nc ac ch U Z B L F) H) (htc : tc ≤ 8) (hnc : nc ≤ 40) (hac : ac ≤ 8) (hD0 : va_D (fun _ => True) (wM cI cZ r th tc nc ac ch U Z B L F)) : Met l yX1_nights wsX1_nights ({ frames := 1, cells := 0, slots := 0, locals := 21 }) (va_Pc [.ref (r 0)] (rd D vwCl (tyA cI cZ) H)) (va_Qi (fun r (_ : Unit) => r = nI nc) (fun _ t8 => va_P D vwCl (wM cI cZ r 0 tc nc ac ch U Z B L F) t8.heap) (va_A (wM cI cZ r th tc nc ac ch U Z B L F) H.size)) 0 0 (va_A (wM cI cZ r th tc nc ac ch U Z B L F) H.size) := by
  refine Met.ofW (cc := cX1_nights) (maxL := 1) (ret := (some .int)) (by decide) rfl ?_
  intro p e s m args below meth c s₁ B9 hml hv
  obtain ⟨rfl, hH, hK⟩ := hv
  subst hH
  have hx := B9.exec
  have hb := B9.bytes
  have hr := B9.returns
  have hts := atoms_spec (ws := wsX1_nights) B9.pre
  have hown : s.vm.findClass RX1 = some m.cls := findClass_of_methodNamed B9.named
  have hlocks := B9.notSynchronized
  have hin : ∀ w ∈ u_ws RX1 TX1 10, w ∈ wsX1_nights := fun w h => List.mem_cons_of_mem _ (List.mem_append_right _ h)
  have hD0 := hD0.self (sz := s.heap.size)
  generalize hAe : va_A (wM cI cZ r th tc nc ac ch U Z B L F) s.heap.size = A at hD0 ⊢
  have hA : ∀ q : Nat, s.heap.size ≤ q → A q := fun q h => by rw [← hAe]; exact Or.inr h
  have hS : va_S A s.heap s.heap [] := va_S.rf
  have hD := hD0
  have hl := lv_entry ([.ref (r 0)]) (n := 1) (Nat.le_of_ble_eq_true rfl)
  rw [lg_entry_eq]
  generalize (lg_sl ([.ref (r 0)]) ++ List.replicate (1 - (lg_sl ([.ref (r 0)])).length) Slot.unset).toArray = ls at hl ⊢
  have hl : lv_has ls 1 [(0, .ref (r 0))] := hl
  refine lv_aload_n hx hb dX1_nights_0 rfl (lv_at hl 0 rfl) ?_
  refine lv_aload_n hx hb dX1_nights_1 rfl (lv_at hl 0 rfl) ?_
  refine va_get (D := D) (ci := 1) (v := .int (nI nc)) (C := RX1) (T := TX1) (N := 10) hx hb hts hin hown hK hP 0 rfl rfl 2 (by decide) (hts (.fieldLink RX1 37 "SmudgedStarModel" "nights" "I") (List.mem_of_getElem? (i := 1) rfl)) (fun _ h9 => h9) rfl dX1_nights_2 ?_
  refine wcV_i (As := [.int (nI nc)]) (rest := []) ⟨hx, hb, hml, hown, hts⟩ (w_M_ok l hP htc hnc hac (hD.weaken (fun _ _ _ _ => trivial)) (v := nI nc)) (cwV 1 hts gX1_nights_X1_ok rfl rfl rfl hdX1_ok ⟨Nat.le_of_ble_eq_true rfl, Nat.le_of_ble_eq_true rfl⟩) (va_recv hK hP (ci := 1) (q0 := 0) rfl rfl) hK hS (va_free_all hD hS hA) rfl hl.1 (Nat.le_of_ble_eq_true rfl) rfl dX1_nights_5 ⟨Nat.le_of_ble_eq_true rfl, Nat.le_of_ble_eq_true rfl⟩ (fun H locs hP hz1 hk1 hS => ?_)
  have hP : va_P D vwCl (wM cI cZ r 0 tc nc ac ch U Z B L F) H := hP
  have hD : va_D A (wM cI cZ r 0 tc nc ac ch U Z B L F) := va_D_re hD rfl
  have hPe : va_P D vwCl (wM cI cZ r 0 tc nc ac ch U Z B L F) H := hP
  exact W.iret (v := nI nc) hx hb hr (fun t9 ht9 hW9 => ⟨⟨nI nc, (), rfl, rfl, by show va_P D vwCl _ t9.heap; rw [ht9]; exact hPe⟩, hS.F ht9⟩) hS.2.2 dX1_nights_8
set_option maxHeartbeats 4000000 in
set_option maxRecDepth 100000 in
theorem w_M_astronomers (l : Launch) {D : va_G} {cI cZ : ClassId} {r : Nat → Nat} {th : Int32} {tc nc ac : Nat} {ch : Int32} {U : Nat → Int32} {Z : Nat → Bool} {B L F : Nat → Int32} {H : Heap} (hP : va_P D vwCl (wM cI cZ r th tc nc ac ch U Z B L F) H) (htc : tc ≤ 8) (hnc : nc ≤ 40) (hac : ac ≤ 8) (hD0 : va_D (fun _ => True) (wM cI cZ r th tc nc ac ch U Z B L F)) : Met l yX1_astronomers wsX1_astronomers ({ frames := 1, cells := 0, slots := 0, locals := 21 }) (va_Pc [.ref (r 0)] (rd D vwCl (tyA cI cZ) H)) (va_Qi (fun r (_ : Unit) => r = nI ac) (fun _ t8 => va_P D vwCl (wM cI cZ r 0 tc nc ac ch U Z B L F) t8.heap) (va_A (wM cI cZ r th tc nc ac ch U Z B L F) H.size)) 0 0 (va_A (wM cI cZ r th tc nc ac ch U Z B L F) H.size) := by
  refine Met.ofW (cc := cX1_astronomers) (maxL := 1) (ret := (some .int)) (by decide) rfl ?_
  intro p e s m args below meth c s₁ B9 hml hv
  obtain ⟨rfl, hH, hK⟩ := hv
  subst hH
  have hx := B9.exec
  have hb := B9.bytes
  have hr := B9.returns
  have hts := atoms_spec (ws := wsX1_astronomers) B9.pre
  have hown : s.vm.findClass RX1 = some m.cls := findClass_of_methodNamed B9.named
  have hlocks := B9.notSynchronized
  have hin : ∀ w ∈ u_ws RX1 TX1 10, w ∈ wsX1_astronomers := fun w h => List.mem_cons_of_mem _ (List.mem_append_right _ h)
  have hD0 := hD0.self (sz := s.heap.size)
  generalize hAe : va_A (wM cI cZ r th tc nc ac ch U Z B L F) s.heap.size = A at hD0 ⊢
  have hA : ∀ q : Nat, s.heap.size ≤ q → A q := fun q h => by rw [← hAe]; exact Or.inr h
  have hS : va_S A s.heap s.heap [] := va_S.rf
  have hD := hD0
  have hl := lv_entry ([.ref (r 0)]) (n := 1) (Nat.le_of_ble_eq_true rfl)
  rw [lg_entry_eq]
  generalize (lg_sl ([.ref (r 0)]) ++ List.replicate (1 - (lg_sl ([.ref (r 0)])).length) Slot.unset).toArray = ls at hl ⊢
  have hl : lv_has ls 1 [(0, .ref (r 0))] := hl
  refine lv_aload_n hx hb dX1_astronomers_0 rfl (lv_at hl 0 rfl) ?_
  refine lv_aload_n hx hb dX1_astronomers_1 rfl (lv_at hl 0 rfl) ?_
  refine va_get (D := D) (ci := 1) (v := .int (nI ac)) (C := RX1) (T := TX1) (N := 10) hx hb hts hin hown hK hP 0 rfl rfl 5 (by decide) (hts (.fieldLink RX1 40 "SmudgedStarModel" "astronomers" "I") (List.mem_of_getElem? (i := 1) rfl)) (fun _ h9 => h9) rfl dX1_astronomers_2 ?_
  refine wcV_i (As := [.int (nI ac)]) (rest := []) ⟨hx, hb, hml, hown, hts⟩ (w_M_ok l hP htc hnc hac (hD.weaken (fun _ _ _ _ => trivial)) (v := nI ac)) (cwV 1 hts gX1_astronomers_X1_ok rfl rfl rfl hdX1_ok ⟨Nat.le_of_ble_eq_true rfl, Nat.le_of_ble_eq_true rfl⟩) (va_recv hK hP (ci := 1) (q0 := 0) rfl rfl) hK hS (va_free_all hD hS hA) rfl hl.1 (Nat.le_of_ble_eq_true rfl) rfl dX1_astronomers_5 ⟨Nat.le_of_ble_eq_true rfl, Nat.le_of_ble_eq_true rfl⟩ (fun H locs hP hz1 hk1 hS => ?_)
  have hP : va_P D vwCl (wM cI cZ r 0 tc nc ac ch U Z B L F) H := hP
  have hD : va_D A (wM cI cZ r 0 tc nc ac ch U Z B L F) := va_D_re hD rfl
  have hPe : va_P D vwCl (wM cI cZ r 0 tc nc ac ch U Z B L F) H := hP
  exact W.iret (v := nI ac) hx hb hr (fun t9 ht9 hW9 => ⟨⟨nI ac, (), rfl, rfl, by show va_P D vwCl _ t9.heap; rw [ht9]; exact hPe⟩, hS.F ht9⟩) hS.2.2 dX1_astronomers_8
set_option maxHeartbeats 4000000 in
set_option maxRecDepth 100000 in
theorem w_M_changesOfMind (l : Launch) {D : va_G} {cI cZ : ClassId} {r : Nat → Nat} {th : Int32} {tc nc ac : Nat} {ch : Int32} {U : Nat → Int32} {Z : Nat → Bool} {B L F : Nat → Int32} {H : Heap} (hP : va_P D vwCl (wM cI cZ r th tc nc ac ch U Z B L F) H) (htc : tc ≤ 8) (hnc : nc ≤ 40) (hac : ac ≤ 8) (hD0 : va_D (fun _ => True) (wM cI cZ r th tc nc ac ch U Z B L F)) : Met l yX1_changesOfMind wsX1_changesOfMind ({ frames := 1, cells := 0, slots := 0, locals := 21 }) (va_Pc [.ref (r 0)] (rd D vwCl (tyA cI cZ) H)) (va_Qi (fun r (_ : Unit) => r = ch) (fun _ t8 => va_P D vwCl (wM cI cZ r 0 tc nc ac ch U Z B L F) t8.heap) (va_A (wM cI cZ r th tc nc ac ch U Z B L F) H.size)) 0 0 (va_A (wM cI cZ r th tc nc ac ch U Z B L F) H.size) := by
  refine Met.ofW (cc := cX1_changesOfMind) (maxL := 1) (ret := (some .int)) (by decide) rfl ?_
  intro p e s m args below meth c s₁ B9 hml hv
  obtain ⟨rfl, hH, hK⟩ := hv
  subst hH
  have hx := B9.exec
  have hb := B9.bytes
  have hr := B9.returns
  have hts := atoms_spec (ws := wsX1_changesOfMind) B9.pre
  have hown : s.vm.findClass RX1 = some m.cls := findClass_of_methodNamed B9.named
  have hlocks := B9.notSynchronized
  have hin : ∀ w ∈ u_ws RX1 TX1 10, w ∈ wsX1_changesOfMind := fun w h => List.mem_cons_of_mem _ (List.mem_append_right _ h)
  have hD0 := hD0.self (sz := s.heap.size)
  generalize hAe : va_A (wM cI cZ r th tc nc ac ch U Z B L F) s.heap.size = A at hD0 ⊢
  have hA : ∀ q : Nat, s.heap.size ≤ q → A q := fun q h => by rw [← hAe]; exact Or.inr h
  have hS : va_S A s.heap s.heap [] := va_S.rf
  have hD := hD0
  have hl := lv_entry ([.ref (r 0)]) (n := 1) (Nat.le_of_ble_eq_true rfl)
  rw [lg_entry_eq]
  generalize (lg_sl ([.ref (r 0)]) ++ List.replicate (1 - (lg_sl ([.ref (r 0)])).length) Slot.unset).toArray = ls at hl ⊢
  have hl : lv_has ls 1 [(0, .ref (r 0))] := hl
  refine lv_aload_n hx hb dX1_changesOfMind_0 rfl (lv_at hl 0 rfl) ?_
  refine lv_aload_n hx hb dX1_changesOfMind_1 rfl (lv_at hl 0 rfl) ?_
  refine va_get (D := D) (ci := 1) (v := .int ch) (C := RX1) (T := TX1) (N := 10) hx hb hts hin hown hK hP 0 rfl rfl 9 (by decide) (hts (.fieldLink RX1 82 "SmudgedStarModel" "changes" "I") (List.mem_of_getElem? (i := 1) rfl)) (fun _ h9 => h9) rfl dX1_changesOfMind_2 ?_
  refine wcV_i (As := [.int ch]) (rest := []) ⟨hx, hb, hml, hown, hts⟩ (w_M_ok l hP htc hnc hac (hD.weaken (fun _ _ _ _ => trivial)) (v := ch)) (cwV 1 hts gX1_changesOfMind_X1_ok rfl rfl rfl hdX1_ok ⟨Nat.le_of_ble_eq_true rfl, Nat.le_of_ble_eq_true rfl⟩) (va_recv hK hP (ci := 1) (q0 := 0) rfl rfl) hK hS (va_free_all hD hS hA) rfl hl.1 (Nat.le_of_ble_eq_true rfl) rfl dX1_changesOfMind_5 ⟨Nat.le_of_ble_eq_true rfl, Nat.le_of_ble_eq_true rfl⟩ (fun H locs hP hz1 hk1 hS => ?_)
  have hP : va_P D vwCl (wM cI cZ r 0 tc nc ac ch U Z B L F) H := hP
  have hD : va_D A (wM cI cZ r 0 tc nc ac ch U Z B L F) := va_D_re hD rfl
  have hPe : va_P D vwCl (wM cI cZ r 0 tc nc ac ch U Z B L F) H := hP
  exact W.iret (v := ch) hx hb hr (fun t9 ht9 hW9 => ⟨⟨ch, (), rfl, rfl, by show va_P D vwCl _ t9.heap; rw [ht9]; exact hPe⟩, hS.F ht9⟩) hS.2.2 dX1_changesOfMind_8
set_option maxHeartbeats 4000000 in
set_option maxRecDepth 100000 in
theorem w_M_smudges (l : Launch) {D : va_G} {cI cZ : ClassId} {r : Nat → Nat} {th : Int32} {tc nc ac : Nat} {ch : Int32} {U : Nat → Int32} {Z : Nat → Bool} {B L F : Nat → Int32} {H : Heap} (hP : va_P D vwCl (wM cI cZ r th tc nc ac ch U Z B L F) H) (htc : tc ≤ 8) (hnc : nc ≤ 40) (hac : ac ≤ 8) (hD0 : va_D (fun _ => True) (wM cI cZ r th tc nc ac ch U Z B L F)) : Met l yX1_smudges wsX1_smudges ({ frames := 1, cells := 0, slots := 0, locals := 22 }) (va_Pc [.ref (r 0)] (rd D vwCl (tyA cI cZ) H)) (va_Qi (fun r (_ : Unit) => r = nI (ct Z nc)) (fun _ t8 => va_P D vwCl (wM cI cZ r 0 tc nc ac ch U Z B L F) t8.heap) (va_A (wM cI cZ r th tc nc ac ch U Z B L F) H.size)) 0 0 (va_A (wM cI cZ r th tc nc ac ch U Z B L F) H.size) := by
  refine Met.ofW (cc := cX1_smudges) (maxL := 1) (ret := (some .int)) (by decide) rfl ?_
  intro p e s m args below meth c s₁ B9 hml hv
  obtain ⟨rfl, hH, hK⟩ := hv
  subst hH
  have hx := B9.exec
  have hb := B9.bytes
  have hr := B9.returns
  have hts := atoms_spec (ws := wsX1_smudges) B9.pre
  have hown : s.vm.findClass RX1 = some m.cls := findClass_of_methodNamed B9.named
  have hlocks := B9.notSynchronized
  have hD0 := hD0.self (sz := s.heap.size)
  generalize hAe : va_A (wM cI cZ r th tc nc ac ch U Z B L F) s.heap.size = A at hD0 ⊢
  have hA : ∀ q : Nat, s.heap.size ≤ q → A q := fun q h => by rw [← hAe]; exact Or.inr h
  have hS : va_S A s.heap s.heap [] := va_S.rf
  have hD := hD0
  have hl := lv_entry ([.ref (r 0)]) (n := 1) (Nat.le_of_ble_eq_true rfl)
  rw [lg_entry_eq]
  generalize (lg_sl ([.ref (r 0)]) ++ List.replicate (1 - (lg_sl ([.ref (r 0)])).length) Slot.unset).toArray = ls at hl ⊢
  have hl : lv_has ls 1 [(0, .ref (r 0))] := hl
  refine lv_aload_n hx hb dX1_smudges_0 rfl (lv_at hl 0 rfl) ?_
  refine lv_aload_n hx hb dX1_smudges_1 rfl (lv_at hl 0 rfl) ?_
  refine pcV_i (As := []) (rest := [.ref (r 0)]) ⟨hx, hb, hml, hown, hts⟩ (g_M_smudgesNow l hP htc hnc hac) (cwV 0 hts gX1_smudges_X1_smudgesNow rfl rfl rfl hdX1_smudgesNow ⟨Nat.le_of_ble_eq_true rfl, Nat.le_of_ble_eq_true rfl⟩) (va_recv hK hP (ci := 1) (q0 := 0) rfl rfl) hK rfl hl.1 (Nat.le_of_ble_eq_true rfl) rfl dX1_smudges_2 ⟨Nat.le_of_ble_eq_true rfl, Nat.le_of_ble_eq_true rfl⟩ ?_
  refine wcV_i (As := [.int (nI (ct Z nc))]) (rest := []) ⟨hx, hb, hml, hown, hts⟩ (w_M_ok l hP htc hnc hac (hD.weaken (fun _ _ _ _ => trivial)) (v := nI (ct Z nc))) (cwV 1 hts gX1_smudges_X1_ok rfl rfl rfl hdX1_ok ⟨Nat.le_of_ble_eq_true rfl, Nat.le_of_ble_eq_true rfl⟩) (va_recv hK hP (ci := 1) (q0 := 0) rfl rfl) hK hS (va_free_all hD hS hA) rfl hl.1 (Nat.le_of_ble_eq_true rfl) rfl dX1_smudges_5 ⟨Nat.le_of_ble_eq_true rfl, Nat.le_of_ble_eq_true rfl⟩ (fun H locs hP hz1 hk1 hS => ?_)
  have hP : va_P D vwCl (wM cI cZ r 0 tc nc ac ch U Z B L F) H := hP
  have hD : va_D A (wM cI cZ r 0 tc nc ac ch U Z B L F) := va_D_re hD rfl
  have hPe : va_P D vwCl (wM cI cZ r 0 tc nc ac ch U Z B L F) H := hP
  exact W.iret (v := nI (ct Z nc)) hx hb hr (fun t9 ht9 hW9 => ⟨⟨nI (ct Z nc), (), rfl, rfl, by show va_P D vwCl _ t9.heap; rw [ht9]; exact hPe⟩, hS.F ht9⟩) hS.2.2 dX1_smudges_8
set_option maxHeartbeats 4000000 in
set_option maxRecDepth 100000 in
theorem w_M_vote (l : Launch) {D : va_G} {cI cZ : ClassId} {r : Nat → Nat} {th : Int32} {tc nc ac : Nat} {ch : Int32} {U : Nat → Int32} {Z : Nat → Bool} {B L F : Nat → Int32} {H : Heap} (hP : va_P D vwCl (wM cI cZ r th tc nc ac ch U Z B L F) H) (htc : tc ≤ 8) (hnc : nc ≤ 40) (hac : ac ≤ 8) (hD0 : va_D (fun _ => True) (wM cI cZ r th tc nc ac ch U Z B L F)) : Met l yX1_vote wsX1_vote ({ frames := 3, cells := 0, slots := 0, locals := 66 }) (va_Pc [.ref (r 0)] (rd D vwCl (tyA cI cZ) H)) (va_Qi (fun r (_ : Unit) => r = orf (fun t => decide (¬ 2 * nI (ct (fun a => hs (B a) (nI t)) ac) ≤ nI ac)) (fun t => (1 : Int32) <<< (nI t &&& 31)) tc) (fun _ t8 => va_P D vwCl (wM cI cZ r 0 tc nc ac ch U Z B L F) t8.heap) (va_A (wM cI cZ r th tc nc ac ch U Z B L F) H.size)) 0 0 (va_A (wM cI cZ r th tc nc ac ch U Z B L F) H.size) := by
  refine Met.ofW (cc := cX1_vote) (maxL := 1) (ret := (some .int)) (by decide) rfl ?_
  intro p e s m args below meth c s₁ B9 hml hv
  obtain ⟨rfl, hH, hK⟩ := hv
  subst hH
  have hx := B9.exec
  have hb := B9.bytes
  have hr := B9.returns
  have hts := atoms_spec (ws := wsX1_vote) B9.pre
  have hown : s.vm.findClass RX1 = some m.cls := findClass_of_methodNamed B9.named
  have hlocks := B9.notSynchronized
  have hD0 := hD0.self (sz := s.heap.size)
  generalize hAe : va_A (wM cI cZ r th tc nc ac ch U Z B L F) s.heap.size = A at hD0 ⊢
  have hA : ∀ q : Nat, s.heap.size ≤ q → A q := fun q h => by rw [← hAe]; exact Or.inr h
  have hS : va_S A s.heap s.heap [] := va_S.rf
  have hD := hD0
  have hl := lv_entry ([.ref (r 0)]) (n := 1) (Nat.le_of_ble_eq_true rfl)
  rw [lg_entry_eq]
  generalize (lg_sl ([.ref (r 0)]) ++ List.replicate (1 - (lg_sl ([.ref (r 0)])).length) Slot.unset).toArray = ls at hl ⊢
  have hl : lv_has ls 1 [(0, .ref (r 0))] := hl
  refine lv_aload_n hx hb dX1_vote_0 rfl (lv_at hl 0 rfl) ?_
  refine lv_aload_n hx hb dX1_vote_1 rfl (lv_at hl 0 rfl) ?_
  refine pcV_i (As := []) (rest := [.ref (r 0)]) ⟨hx, hb, hml, hown, hts⟩ (g_M_voted l hP htc hnc hac) (cwV 0 hts gX1_vote_X1_voted rfl rfl rfl hdX1_voted ⟨Nat.le_of_ble_eq_true rfl, Nat.le_of_ble_eq_true rfl⟩) (va_recv hK hP (ci := 1) (q0 := 0) rfl rfl) hK rfl hl.1 (Nat.le_of_ble_eq_true rfl) rfl dX1_vote_2 ⟨Nat.le_of_ble_eq_true rfl, Nat.le_of_ble_eq_true rfl⟩ ?_
  refine wcV_i (As := [.int (orf (fun t => decide (¬ 2 * nI (ct (fun a => hs (B a) (nI t)) ac) ≤ nI ac)) (fun t => (1 : Int32) <<< (nI t &&& 31)) tc)]) (rest := []) ⟨hx, hb, hml, hown, hts⟩ (w_M_ok l hP htc hnc hac (hD.weaken (fun _ _ _ _ => trivial)) (v := orf (fun t => decide (¬ 2 * nI (ct (fun a => hs (B a) (nI t)) ac) ≤ nI ac)) (fun t => (1 : Int32) <<< (nI t &&& 31)) tc)) (cwV 1 hts gX1_vote_X1_ok rfl rfl rfl hdX1_ok ⟨Nat.le_of_ble_eq_true rfl, Nat.le_of_ble_eq_true rfl⟩) (va_recv hK hP (ci := 1) (q0 := 0) rfl rfl) hK hS (va_free_all hD hS hA) rfl hl.1 (Nat.le_of_ble_eq_true rfl) rfl dX1_vote_5 ⟨Nat.le_of_ble_eq_true rfl, Nat.le_of_ble_eq_true rfl⟩ (fun H locs hP hz1 hk1 hS => ?_)
  have hP : va_P D vwCl (wM cI cZ r 0 tc nc ac ch U Z B L F) H := hP
  have hD : va_D A (wM cI cZ r 0 tc nc ac ch U Z B L F) := va_D_re hD rfl
  have hPe : va_P D vwCl (wM cI cZ r 0 tc nc ac ch U Z B L F) H := hP
  exact W.iret (v := orf (fun t => decide (¬ 2 * nI (ct (fun a => hs (B a) (nI t)) ac) ≤ nI ac)) (fun t => (1 : Int32) <<< (nI t &&& 31)) tc) hx hb hr (fun t9 ht9 hW9 => ⟨⟨orf (fun t => decide (¬ 2 * nI (ct (fun a => hs (B a) (nI t)) ac) ≤ nI ac)) (fun t => (1 : Int32) <<< (nI t &&& 31)) tc, (), rfl, rfl, by show va_P D vwCl _ t9.heap; rw [ht9]; exact hPe⟩, hS.F ht9⟩) hS.2.2 dX1_vote_8
set_option maxHeartbeats 4000000 in
set_option maxRecDepth 100000 in
theorem w_M_explanations (l : Launch) {D : va_G} {cI cZ : ClassId} {r : Nat → Nat} {th : Int32} {tc nc ac : Nat} {ch : Int32} {U : Nat → Int32} {Z : Nat → Bool} {B L F : Nat → Int32} {H : Heap} (hP : va_P D vwCl (wM cI cZ r th tc nc ac ch U Z B L F) H) (htc : tc ≤ 8) (hnc : nc ≤ 40) (hac : ac ≤ 8) (hD0 : va_D (fun _ => True) (wM cI cZ r th tc nc ac ch U Z B L F)) : Met l yX1_explanations wsX1_explanations ({ frames := 3, cells := 0, slots := 0, locals := 67 }) (va_Pc [.ref (r 0)] (rd D vwCl (tyA cI cZ) H)) (va_Qi (fun r (_ : Unit) => r = nI (ex U Z nc (pw tc))) (fun _ t8 => va_P D vwCl (wM cI cZ r 0 tc nc ac ch U Z B L F) t8.heap) (va_A (wM cI cZ r th tc nc ac ch U Z B L F) H.size)) 0 0 (va_A (wM cI cZ r th tc nc ac ch U Z B L F) H.size) := by
  refine Met.ofW (cc := cX1_explanations) (maxL := 1) (ret := (some .int)) (by decide) rfl ?_
  intro p e s m args below meth c s₁ B9 hml hv
  obtain ⟨rfl, hH, hK⟩ := hv
  subst hH
  have hx := B9.exec
  have hb := B9.bytes
  have hr := B9.returns
  have hts := atoms_spec (ws := wsX1_explanations) B9.pre
  have hown : s.vm.findClass RX1 = some m.cls := findClass_of_methodNamed B9.named
  have hlocks := B9.notSynchronized
  have hD0 := hD0.self (sz := s.heap.size)
  generalize hAe : va_A (wM cI cZ r th tc nc ac ch U Z B L F) s.heap.size = A at hD0 ⊢
  have hA : ∀ q : Nat, s.heap.size ≤ q → A q := fun q h => by rw [← hAe]; exact Or.inr h
  have hS : va_S A s.heap s.heap [] := va_S.rf
  have hD := hD0
  have hl := lv_entry ([.ref (r 0)]) (n := 1) (Nat.le_of_ble_eq_true rfl)
  rw [lg_entry_eq]
  generalize (lg_sl ([.ref (r 0)]) ++ List.replicate (1 - (lg_sl ([.ref (r 0)])).length) Slot.unset).toArray = ls at hl ⊢
  have hl : lv_has ls 1 [(0, .ref (r 0))] := hl
  refine lv_aload_n hx hb dX1_explanations_0 rfl (lv_at hl 0 rfl) ?_
  refine lv_aload_n hx hb dX1_explanations_1 rfl (lv_at hl 0 rfl) ?_
  refine pcV_i (As := []) (rest := [.ref (r 0)]) ⟨hx, hb, hml, hown, hts⟩ (g_M_explaining l hP htc hnc hac) (cwV 0 hts gX1_explanations_X1_explaining rfl rfl rfl hdX1_explaining ⟨Nat.le_of_ble_eq_true rfl, Nat.le_of_ble_eq_true rfl⟩) (va_recv hK hP (ci := 1) (q0 := 0) rfl rfl) hK rfl hl.1 (Nat.le_of_ble_eq_true rfl) rfl dX1_explanations_2 ⟨Nat.le_of_ble_eq_true rfl, Nat.le_of_ble_eq_true rfl⟩ ?_
  refine wcV_i (As := [.int (nI (ex U Z nc (pw tc)))]) (rest := []) ⟨hx, hb, hml, hown, hts⟩ (w_M_ok l hP htc hnc hac (hD.weaken (fun _ _ _ _ => trivial)) (v := nI (ex U Z nc (pw tc)))) (cwV 1 hts gX1_explanations_X1_ok rfl rfl rfl hdX1_ok ⟨Nat.le_of_ble_eq_true rfl, Nat.le_of_ble_eq_true rfl⟩) (va_recv hK hP (ci := 1) (q0 := 0) rfl rfl) hK hS (va_free_all hD hS hA) rfl hl.1 (Nat.le_of_ble_eq_true rfl) rfl dX1_explanations_5 ⟨Nat.le_of_ble_eq_true rfl, Nat.le_of_ble_eq_true rfl⟩ (fun H locs hP hz1 hk1 hS => ?_)
  have hP : va_P D vwCl (wM cI cZ r 0 tc nc ac ch U Z B L F) H := hP
  have hD : va_D A (wM cI cZ r 0 tc nc ac ch U Z B L F) := va_D_re hD rfl
  have hPe : va_P D vwCl (wM cI cZ r 0 tc nc ac ch U Z B L F) H := hP
  exact W.iret (v := nI (ex U Z nc (pw tc))) hx hb hr (fun t9 ht9 hW9 => ⟨⟨nI (ex U Z nc (pw tc)), (), rfl, rfl, by show va_P D vwCl _ t9.heap; rw [ht9]; exact hPe⟩, hS.F ht9⟩) hS.2.2 dX1_explanations_8
set_option maxHeartbeats 4000000 in
set_option maxRecDepth 100000 in
theorem w_M_simplest (l : Launch) {D : va_G} {cI cZ : ClassId} {r : Nat → Nat} {th : Int32} {tc nc ac : Nat} {ch : Int32} {U : Nat → Int32} {Z : Nat → Bool} {B L F : Nat → Int32} {H : Heap} (hP : va_P D vwCl (wM cI cZ r th tc nc ac ch U Z B L F) H) (htc : tc ≤ 8) (hnc : nc ≤ 40) (hac : ac ≤ 8) (hD0 : va_D (fun _ => True) (wM cI cZ r th tc nc ac ch U Z B L F)) : Met l yX1_simplest wsX1_simplest ({ frames := 3, cells := 0, slots := 0, locals := 67 }) (va_Pc [.ref (r 0)] (rd D vwCl (tyA cI cZ) H)) (va_Qi (fun r (_ : Unit) => r = smm (fun k => zz U Z nc k) (pw tc)) (fun _ t8 => va_P D vwCl (wM cI cZ r 0 tc nc ac ch U Z B L F) t8.heap) (va_A (wM cI cZ r th tc nc ac ch U Z B L F) H.size)) 0 0 (va_A (wM cI cZ r th tc nc ac ch U Z B L F) H.size) := by
  refine Met.ofW (cc := cX1_simplest) (maxL := 1) (ret := (some .int)) (by decide) rfl ?_
  intro p e s m args below meth c s₁ B9 hml hv
  obtain ⟨rfl, hH, hK⟩ := hv
  subst hH
  have hx := B9.exec
  have hb := B9.bytes
  have hr := B9.returns
  have hts := atoms_spec (ws := wsX1_simplest) B9.pre
  have hown : s.vm.findClass RX1 = some m.cls := findClass_of_methodNamed B9.named
  have hlocks := B9.notSynchronized
  have hD0 := hD0.self (sz := s.heap.size)
  generalize hAe : va_A (wM cI cZ r th tc nc ac ch U Z B L F) s.heap.size = A at hD0 ⊢
  have hA : ∀ q : Nat, s.heap.size ≤ q → A q := fun q h => by rw [← hAe]; exact Or.inr h
  have hS : va_S A s.heap s.heap [] := va_S.rf
  have hD := hD0
  have hl := lv_entry ([.ref (r 0)]) (n := 1) (Nat.le_of_ble_eq_true rfl)
  rw [lg_entry_eq]
  generalize (lg_sl ([.ref (r 0)]) ++ List.replicate (1 - (lg_sl ([.ref (r 0)])).length) Slot.unset).toArray = ls at hl ⊢
  have hl : lv_has ls 1 [(0, .ref (r 0))] := hl
  refine lv_aload_n hx hb dX1_simplest_0 rfl (lv_at hl 0 rfl) ?_
  refine lv_aload_n hx hb dX1_simplest_1 rfl (lv_at hl 0 rfl) ?_
  refine pcV_i (As := []) (rest := [.ref (r 0)]) ⟨hx, hb, hml, hown, hts⟩ (g_M_fewest l hP htc hnc hac) (cwV 0 hts gX1_simplest_X1_fewest rfl rfl rfl hdX1_fewest ⟨Nat.le_of_ble_eq_true rfl, Nat.le_of_ble_eq_true rfl⟩) (va_recv hK hP (ci := 1) (q0 := 0) rfl rfl) hK rfl hl.1 (Nat.le_of_ble_eq_true rfl) rfl dX1_simplest_2 ⟨Nat.le_of_ble_eq_true rfl, Nat.le_of_ble_eq_true rfl⟩ ?_
  refine wcV_i (As := [.int (smm (fun k => zz U Z nc k) (pw tc))]) (rest := []) ⟨hx, hb, hml, hown, hts⟩ (w_M_ok l hP htc hnc hac (hD.weaken (fun _ _ _ _ => trivial)) (v := smm (fun k => zz U Z nc k) (pw tc))) (cwV 1 hts gX1_simplest_X1_ok rfl rfl rfl hdX1_ok ⟨Nat.le_of_ble_eq_true rfl, Nat.le_of_ble_eq_true rfl⟩) (va_recv hK hP (ci := 1) (q0 := 0) rfl rfl) hK hS (va_free_all hD hS hA) rfl hl.1 (Nat.le_of_ble_eq_true rfl) rfl dX1_simplest_5 ⟨Nat.le_of_ble_eq_true rfl, Nat.le_of_ble_eq_true rfl⟩ (fun H locs hP hz1 hk1 hS => ?_)
  have hP : va_P D vwCl (wM cI cZ r 0 tc nc ac ch U Z B L F) H := hP
  have hD : va_D A (wM cI cZ r 0 tc nc ac ch U Z B L F) := va_D_re hD rfl
  have hPe : va_P D vwCl (wM cI cZ r 0 tc nc ac ch U Z B L F) H := hP
  exact W.iret (v := smm (fun k => zz U Z nc k) (pw tc)) hx hb hr (fun t9 ht9 hW9 => ⟨⟨smm (fun k => zz U Z nc k) (pw tc), (), rfl, rfl, by show va_P D vwCl _ t9.heap; rw [ht9]; exact hPe⟩, hS.F ht9⟩) hS.2.2 dX1_simplest_8
set_option maxHeartbeats 4000000 in
set_option maxRecDepth 100000 in
theorem w_M_surelyToBlame (l : Launch) {D : va_G} {cI cZ : ClassId} {r : Nat → Nat} {th : Int32} {tc nc ac : Nat} {ch : Int32} {U : Nat → Int32} {Z : Nat → Bool} {B L F : Nat → Int32} {H : Heap} (hP : va_P D vwCl (wM cI cZ r th tc nc ac ch U Z B L F) H) (htc : tc ≤ 8) (hnc : nc ≤ 40) (hac : ac ≤ 8) (hD0 : va_D (fun _ => True) (wM cI cZ r th tc nc ac ch U Z B L F)) : Met l yX1_surelyToBlame wsX1_surelyToBlame ({ frames := 3, cells := 0, slots := 0, locals := 67 }) (va_Pc [.ref (r 0)] (rd D vwCl (tyA cI cZ) H)) (va_Qi (fun r (_ : Unit) => r = anf (fun k => zz U Z nc k) (-1) (pw tc)) (fun _ t8 => va_P D vwCl (wM cI cZ r 0 tc nc ac ch U Z B L F) t8.heap) (va_A (wM cI cZ r th tc nc ac ch U Z B L F) H.size)) 0 0 (va_A (wM cI cZ r th tc nc ac ch U Z B L F) H.size) := by
  refine Met.ofW (cc := cX1_surelyToBlame) (maxL := 1) (ret := (some .int)) (by decide) rfl ?_
  intro p e s m args below meth c s₁ B9 hml hv
  obtain ⟨rfl, hH, hK⟩ := hv
  subst hH
  have hx := B9.exec
  have hb := B9.bytes
  have hr := B9.returns
  have hts := atoms_spec (ws := wsX1_surelyToBlame) B9.pre
  have hown : s.vm.findClass RX1 = some m.cls := findClass_of_methodNamed B9.named
  have hlocks := B9.notSynchronized
  have hD0 := hD0.self (sz := s.heap.size)
  generalize hAe : va_A (wM cI cZ r th tc nc ac ch U Z B L F) s.heap.size = A at hD0 ⊢
  have hA : ∀ q : Nat, s.heap.size ≤ q → A q := fun q h => by rw [← hAe]; exact Or.inr h
  have hS : va_S A s.heap s.heap [] := va_S.rf
  have hD := hD0
  have hl := lv_entry ([.ref (r 0)]) (n := 1) (Nat.le_of_ble_eq_true rfl)
  rw [lg_entry_eq]
  generalize (lg_sl ([.ref (r 0)]) ++ List.replicate (1 - (lg_sl ([.ref (r 0)])).length) Slot.unset).toArray = ls at hl ⊢
  have hl : lv_has ls 1 [(0, .ref (r 0))] := hl
  refine lv_aload_n hx hb dX1_surelyToBlame_0 rfl (lv_at hl 0 rfl) ?_
  refine lv_aload_n hx hb dX1_surelyToBlame_1 rfl (lv_at hl 0 rfl) ?_
  refine pcV_i (As := []) (rest := [.ref (r 0)]) ⟨hx, hb, hml, hown, hts⟩ (g_M_inAll l hP htc hnc hac) (cwV 0 hts gX1_surelyToBlame_X1_inAll rfl rfl rfl hdX1_inAll ⟨Nat.le_of_ble_eq_true rfl, Nat.le_of_ble_eq_true rfl⟩) (va_recv hK hP (ci := 1) (q0 := 0) rfl rfl) hK rfl hl.1 (Nat.le_of_ble_eq_true rfl) rfl dX1_surelyToBlame_2 ⟨Nat.le_of_ble_eq_true rfl, Nat.le_of_ble_eq_true rfl⟩ ?_
  refine wcV_i (As := [.int (anf (fun k => zz U Z nc k) (-1) (pw tc))]) (rest := []) ⟨hx, hb, hml, hown, hts⟩ (w_M_ok l hP htc hnc hac (hD.weaken (fun _ _ _ _ => trivial)) (v := anf (fun k => zz U Z nc k) (-1) (pw tc))) (cwV 1 hts gX1_surelyToBlame_X1_ok rfl rfl rfl hdX1_ok ⟨Nat.le_of_ble_eq_true rfl, Nat.le_of_ble_eq_true rfl⟩) (va_recv hK hP (ci := 1) (q0 := 0) rfl rfl) hK hS (va_free_all hD hS hA) rfl hl.1 (Nat.le_of_ble_eq_true rfl) rfl dX1_surelyToBlame_5 ⟨Nat.le_of_ble_eq_true rfl, Nat.le_of_ble_eq_true rfl⟩ (fun H locs hP hz1 hk1 hS => ?_)
  have hP : va_P D vwCl (wM cI cZ r 0 tc nc ac ch U Z B L F) H := hP
  have hD : va_D A (wM cI cZ r 0 tc nc ac ch U Z B L F) := va_D_re hD rfl
  have hPe : va_P D vwCl (wM cI cZ r 0 tc nc ac ch U Z B L F) H := hP
  exact W.iret (v := anf (fun k => zz U Z nc k) (-1) (pw tc)) hx hb hr (fun t9 ht9 hW9 => ⟨⟨anf (fun k => zz U Z nc k) (-1) (pw tc), (), rfl, rfl, by show va_P D vwCl _ t9.heap; rw [ht9]; exact hPe⟩, hS.F ht9⟩) hS.2.2 dX1_surelyToBlame_8
set_option maxHeartbeats 4000000 in
set_option maxRecDepth 100000 in
theorem w_M_agree (l : Launch) {D : va_G} {cI cZ : ClassId} {r : Nat → Nat} {th : Int32} {tc nc ac : Nat} {ch : Int32} {U : Nat → Int32} {Z : Nat → Bool} {B L F : Nat → Int32} {H : Heap} (hP : va_P D vwCl (wM cI cZ r th tc nc ac ch U Z B L F) H) (htc : tc ≤ 8) (hnc : nc ≤ 40) (hac : ac ≤ 8) (hD0 : va_D (fun _ => True) (wM cI cZ r th tc nc ac ch U Z B L F)) : Met l yX1_agree wsX1_agree ({ frames := 3, cells := 0, slots := 0, locals := 67 }) (va_Pc [.ref (r 0)] (rd D vwCl (tyA cI cZ) H)) (va_Qi (fun r (_ : Unit) => r = bI (!(decide (smm (fun k => zz U Z nc k) (pw tc) = -1)))) (fun _ t8 => va_P D vwCl (wM cI cZ r 0 tc nc ac ch U Z B L F) t8.heap) (va_A (wM cI cZ r th tc nc ac ch U Z B L F) H.size)) 0 0 (va_A (wM cI cZ r th tc nc ac ch U Z B L F) H.size) := by
  refine Met.ofW (cc := cX1_agree) (maxL := 1) (ret := (some .boolean)) (by decide) rfl ?_
  intro p e s m args below meth c s₁ B9 hml hv
  obtain ⟨rfl, hH, hK⟩ := hv
  subst hH
  have hx := B9.exec
  have hb := B9.bytes
  have hr := B9.returns
  have hts := atoms_spec (ws := wsX1_agree) B9.pre
  have hown : s.vm.findClass RX1 = some m.cls := findClass_of_methodNamed B9.named
  have hlocks := B9.notSynchronized
  have hin : ∀ w ∈ u_ws RX1 TX1 10, w ∈ wsX1_agree := fun w h => List.mem_cons_of_mem _ (List.mem_append_right _ h)
  have hD0 := hD0.self (sz := s.heap.size)
  generalize hAe : va_A (wM cI cZ r th tc nc ac ch U Z B L F) s.heap.size = A at hD0 ⊢
  have hA : ∀ q : Nat, s.heap.size ≤ q → A q := fun q h => by rw [← hAe]; exact Or.inr h
  have hS : va_S A s.heap s.heap [] := va_S.rf
  have hD := hD0
  have hl := lv_entry ([.ref (r 0)]) (n := 1) (Nat.le_of_ble_eq_true rfl)
  rw [lg_entry_eq]
  generalize (lg_sl ([.ref (r 0)]) ++ List.replicate (1 - (lg_sl ([.ref (r 0)])).length) Slot.unset).toArray = ls at hl ⊢
  have hl : lv_has ls 1 [(0, .ref (r 0))] := hl
  refine lv_aload_n hx hb dX1_agree_0 rfl (lv_at hl 0 rfl) ?_
  refine lv_iconst (v := 0) hx hb dX1_agree_1 (by decide) ?_
  refine va_put (D := D) (ci := 1) (v := .int 0) (ty := .int) (C := RX1) (T := TX1) (N := 10) hx hb hts hin tyX1 tyX1_ok nmX1 hown hK hP hD hS 0 rfl rfl 0 (by decide) (hts (.fieldLink RX1 26 "SmudgedStarModel" "thrown" "I") (List.mem_of_getElem? (i := 1) rfl)) (fun _ h9 => h9) rfl (by decide +kernel) rfl rfl (Nat.le_of_ble_eq_true rfl) dX1_agree_2 (fun H locs hP hD hS => ?_)
  have hP : va_P D vwCl (wM cI cZ r 0 tc nc ac ch U Z B L F) H := hP
  have hD : va_D A (wM cI cZ r 0 tc nc ac ch U Z B L F) := va_D_re hD rfl
  refine lv_aload_n hx hb dX1_agree_5 rfl (lv_at hl 0 rfl) ?_
  refine pcV_i (As := []) (rest := []) ⟨hx, hb, hml, hown, hts⟩ (g_M_fewest l hP htc hnc hac) (cwV 0 hts gX1_agree_X1_fewest rfl rfl rfl hdX1_fewest ⟨Nat.le_of_ble_eq_true rfl, Nat.le_of_ble_eq_true rfl⟩) (va_recv hK hP (ci := 1) (q0 := 0) rfl rfl) hK rfl hl.1 (Nat.le_of_ble_eq_true rfl) rfl dX1_agree_6 ⟨Nat.le_of_ble_eq_true rfl, Nat.le_of_ble_eq_true rfl⟩ ?_
  refine lv_iconst (v := (-1)) hx hb dX1_agree_9 (by decide) ?_
  refine lv_icmp_eq (tgt := 17) hx hb dX1_agree_10 (by decide) (fun c10 => ?_) (fun c10 => ?_)
  · skip
    refine lv_iconst (v := 0) hx hb dX1_agree_17 (by decide) ?_
    have hPe : va_P D vwCl (wM cI cZ r 0 tc nc ac ch U Z B L F) H := hP
    exact W.zret (v := 0) (ty := .boolean) hx hb hr (rfl) (fun t9 ht9 hW9 => ⟨⟨0, (), rfl, (by rw [decide_eq_true c10]; rfl), by show va_P D vwCl _ t9.heap; rw [ht9]; exact hPe⟩, hS.F ht9⟩) hS.2.2 dX1_agree_18
  · skip
    refine lv_iconst (v := 1) hx hb dX1_agree_13 (by decide) ?_
    refine lv_goto (tgt := 18) hx hb dX1_agree_14 (by decide) ?_
    have hPe : va_P D vwCl (wM cI cZ r 0 tc nc ac ch U Z B L F) H := hP
    exact W.zret (v := 1) (ty := .boolean) hx hb hr (rfl) (fun t9 ht9 hW9 => ⟨⟨1, (), rfl, (by rw [decide_eq_false c10]; rfl), by show va_P D vwCl _ t9.heap; rw [ht9]; exact hPe⟩, hS.F ht9⟩) hS.2.2 dX1_agree_18
set_option maxHeartbeats 4000000 in
set_option maxRecDepth 100000 in
theorem w_M_nightsToDoubt (l : Launch) {D : va_G} {cI cZ : ClassId} {r : Nat → Nat} {th : Int32} {tc nc ac : Nat} {ch : Int32} {U : Nat → Int32} {Z : Nat → Bool} {B L F : Nat → Int32} {H : Heap} (hP : va_P D vwCl (wM cI cZ r th tc nc ac ch U Z B L F) H) (htc : tc ≤ 8) (hnc : nc ≤ 40) (hac : ac ≤ 8) (hD0 : va_D (fun _ => True) (wM cI cZ r th tc nc ac ch U Z B L F)) : Met l yX1_nightsToDoubt wsX1_nightsToDoubt ({ frames := 2, cells := 0, slots := 0, locals := 45 }) (va_Pc [.ref (r 0)] (rd D vwCl (tyA cI cZ) H)) (va_Qi (fun r (_ : Unit) => r = mnf (mis U Z nc) (nI nc) (pw tc)) (fun _ t8 => va_P D vwCl (wM cI cZ r 0 tc nc ac ch U Z B L F) t8.heap) (va_A (wM cI cZ r th tc nc ac ch U Z B L F) H.size)) 0 0 (va_A (wM cI cZ r th tc nc ac ch U Z B L F) H.size) := by
  refine Met.ofW (cc := cX1_nightsToDoubt) (maxL := 3) (ret := (some .int)) (by decide) rfl ?_
  intro p e s m args below meth c s₁ B9 hml hv
  obtain ⟨rfl, hH, hK⟩ := hv
  subst hH
  have hx := B9.exec
  have hb := B9.bytes
  have hr := B9.returns
  have hts := atoms_spec (ws := wsX1_nightsToDoubt) B9.pre
  have hown : s.vm.findClass RX1 = some m.cls := findClass_of_methodNamed B9.named
  have hlocks := B9.notSynchronized
  have hin : ∀ w ∈ u_ws RX1 TX1 10, w ∈ wsX1_nightsToDoubt := fun w h => List.mem_cons_of_mem _ (List.mem_append_right _ h)
  have hD0 := hD0.self (sz := s.heap.size)
  generalize hAe : va_A (wM cI cZ r th tc nc ac ch U Z B L F) s.heap.size = A at hD0 ⊢
  have hA : ∀ q : Nat, s.heap.size ≤ q → A q := fun q h => by rw [← hAe]; exact Or.inr h
  have hS : va_S A s.heap s.heap [] := va_S.rf
  have hD := hD0
  have hl := lv_entry ([.ref (r 0)]) (n := 3) (Nat.le_of_ble_eq_true rfl)
  rw [lg_entry_eq]
  generalize (lg_sl ([.ref (r 0)]) ++ List.replicate (3 - (lg_sl ([.ref (r 0)])).length) Slot.unset).toArray = ls at hl ⊢
  have hl : lv_has ls 3 [(0, .ref (r 0))] := hl
  have hpw := pw_in htc
  refine lv_aload_n hx hb dX1_nightsToDoubt_0 rfl (lv_at hl 0 rfl) ?_
  refine lv_iconst (v := 0) hx hb dX1_nightsToDoubt_1 (by decide) ?_
  refine va_put (D := D) (ci := 1) (v := .int 0) (ty := .int) (C := RX1) (T := TX1) (N := 10) hx hb hts hin tyX1 tyX1_ok nmX1 hown hK hP hD hS 0 rfl rfl 0 (by decide) (hts (.fieldLink RX1 26 "SmudgedStarModel" "thrown" "I") (List.mem_of_getElem? (i := 1) rfl)) (fun _ h9 => h9) rfl (by decide +kernel) rfl rfl (Nat.le_of_ble_eq_true rfl) dX1_nightsToDoubt_2 (fun H locs hP hD hS => ?_)
  have hP : va_P D vwCl (wM cI cZ r 0 tc nc ac ch U Z B L F) H := hP
  have hD : va_D A (wM cI cZ r 0 tc nc ac ch U Z B L F) := va_D_re hD rfl
  refine lv_aload_n hx hb dX1_nightsToDoubt_5 rfl (lv_at hl 0 rfl) ?_
  refine va_get (D := D) (ci := 1) (v := .int (nI nc)) (C := RX1) (T := TX1) (N := 10) hx hb hts hin hown hK hP 0 rfl rfl 2 (by decide) (hts (.fieldLink RX1 37 "SmudgedStarModel" "nights" "I") (List.mem_of_getElem? (i := 2) rfl)) (fun _ h9 => h9) rfl dX1_nightsToDoubt_6 ?_
  refine lv_istore_n (lv' := [(1, .int (nI nc)), (0, .ref (r 0))]) hx hb dX1_nightsToDoubt_9 rfl hl (by decide) rfl (fun ls hl => ?_)
  refine lv_iconst (v := 0) hx hb dX1_nightsToDoubt_10 (by decide) ?_
  refine lv_istore_n (lv' := [(2, .int 0), (1, .int (nI nc)), (0, .ref (r 0))]) hx hb dX1_nightsToDoubt_11 rfl hl (by decide) rfl (fun ls hl => ?_)
  refine w_loop (N := pw tc) (T := fun i => [(2, .int (nI i)), (1, .int (mnf (mis U Z nc) (nI nc) i)), (0, .ref (r 0))]) (I := fun _ => True) 0 (Nat.zero_le _) trivial (lv_sub hl [0, 1, 2] rfl) (fun i ls hi hI hl ih => ?_)
  have hl : lv_has ls 3 [(2, .int (nI i)), (1, .int (mnf (mis U Z nc) (nI nc) i)), (0, .ref (r 0))] := hl
  refine lv_iload_n hx hb dX1_nightsToDoubt_12 rfl (lv_at hl 0 rfl) ?_
  refine lv_aload_n hx hb dX1_nightsToDoubt_13 rfl (lv_at hl 2 rfl) ?_
  refine pcV_i (As := []) (rest := [.int (nI i)]) ⟨hx, hb, hml, hown, hts⟩ (g_M_all l hP htc hnc hac) (cwV 0 hts gX1_nightsToDoubt_X1_all rfl rfl rfl hdX1_all ⟨Nat.le_of_ble_eq_true rfl, Nat.le_of_ble_eq_true rfl⟩) (va_recv hK hP (ci := 1) (q0 := 0) rfl rfl) hK rfl hl.1 (Nat.le_of_ble_eq_true rfl) rfl dX1_nightsToDoubt_14 ⟨Nat.le_of_ble_eq_true rfl, Nat.le_of_ble_eq_true rfl⟩ ?_
  refine lv_icmp_gt (tgt := 36) hx hb dX1_nightsToDoubt_17 (by decide) (fun c17 => ?_) (fun c17 => ?_)
  · skip
    have hie : i = pw tc := gd_gt_t htc hi c17
    rw [hie] at hl
    refine lv_iload_n hx hb dX1_nightsToDoubt_36 rfl (lv_at hl 1 rfl) ?_
    have hPe : va_P D vwCl (wM cI cZ r 0 tc nc ac ch U Z B L F) H := hP
    exact W.iret (v := mnf (mis U Z nc) (nI nc) (pw tc)) hx hb hr (fun t9 ht9 hW9 => ⟨⟨mnf (mis U Z nc) (nI nc) (pw tc), (), rfl, rfl, by show va_P D vwCl _ t9.heap; rw [ht9]; exact hPe⟩, hS.F ht9⟩) hS.2.2 dX1_nightsToDoubt_37
  · skip
    have hlt : i < pw tc := gd_gt_f htc hi c17
    refine lv_iload_n hx hb dX1_nightsToDoubt_20 rfl (lv_at hl 1 rfl) ?_
    refine lv_aload_n hx hb dX1_nightsToDoubt_21 rfl (lv_at hl 2 rfl) ?_
    refine lv_iload_n hx hb dX1_nightsToDoubt_22 rfl (lv_at hl 0 rfl) ?_
    refine pcV_i (As := [.int (nI i)]) (rest := [.int (mnf (mis U Z nc) (nI nc) i)]) ⟨hx, hb, hml, hown, hts⟩ (g_M_unexplained l hP htc hnc hac (v := nI i)) (cwV 1 hts gX1_nightsToDoubt_X1_unexplained rfl rfl rfl hdX1_unexplained ⟨Nat.le_of_ble_eq_true rfl, Nat.le_of_ble_eq_true rfl⟩) (va_recv hK hP (ci := 1) (q0 := 0) rfl rfl) hK rfl hl.1 (Nat.le_of_ble_eq_true rfl) rfl dX1_nightsToDoubt_23 ⟨Nat.le_of_ble_eq_true rfl, Nat.le_of_ble_eq_true rfl⟩ ?_
    refine va_mmin hx hb (by rw [hml]; exact hl.1.symm) hown (hts (.methodLink RX1 125 Lib.Math.min.name) (List.mem_of_getElem? (i := 3) rfl)) (hts (.static Lib.Math.min.name) (List.mem_of_getElem? (i := 4) rfl)) (hts (.initialized "java/lang/Math") (List.mem_of_getElem? (i := 5) rfl)) (hts (.code Lib.Math.min.name Lib.Math.min.code 2 (some .int)) (List.mem_of_getElem? (i := 6) rfl)) (Nat.le_of_ble_eq_true rfl) (Nat.le_of_ble_eq_true rfl) (Nat.le_of_ble_eq_true rfl) (Nat.le_of_ble_eq_true rfl) dX1_nightsToDoubt_26 ?_
    refine lv_istore_n (lv' := [(1, .int (if nI (un U Z (nI i) nc) < mnf (mis U Z nc) (nI nc) i then nI (un U Z (nI i) nc) else mnf (mis U Z nc) (nI nc) i)), (2, .int (nI i)), (0, .ref (r 0))]) hx hb dX1_nightsToDoubt_29 rfl hl (by decide) rfl (fun ls hl => ?_)
    refine lv_iinc (v := nI (i + 1)) (lv' := [(2, .int (nI (i + 1))), (1, .int (if nI (un U Z (nI i) nc) < mnf (mis U Z nc) (nI nc) i then nI (un U Z (nI i) nc) else mnf (mis U Z nc) (nI nc) i)), (0, .ref (r 0))]) hx hb dX1_nightsToDoubt_30 hl (k := 1) rfl (nI_1 _) (by decide) rfl (fun ls hl => ?_)
    refine lv_goto (tgt := 12) hx hb dX1_nightsToDoubt_33 (by decide) ?_
    have e1 : (if nI (un U Z (nI i) nc) < mnf (mis U Z nc) (nI nc) i then nI (un U Z (nI i) nc) else mnf (mis U Z nc) (nI nc) i) = mnf (mis U Z nc) (nI nc) (i + 1) := mnf_s (mis U Z nc) (nI nc) i
    have hl := lv_sub (l' := [(2, .int (nI (i + 1))), (1, .int (if nI (un U Z (nI i) nc) < mnf (mis U Z nc) (nI nc) i then nI (un U Z (nI i) nc) else mnf (mis U Z nc) (nI nc) i)), (0, .ref (r 0))]) hl [0, 1, 2] rfl
    rw [e1] at hl
    exact ih ls hlt trivial hl
set_option maxHeartbeats 4000000 in
set_option maxRecDepth 100000 in
theorem w_M_nightsWith (l : Launch) {D : va_G} {cI cZ : ClassId} {r : Nat → Nat} {th : Int32} {tc nc ac : Nat} {ch : Int32} {U : Nat → Int32} {Z : Nat → Bool} {B L F : Nat → Int32} {H : Heap} (hP : va_P D vwCl (wM cI cZ r th tc nc ac ch U Z B L F) H) (htc : tc ≤ 8) (hnc : nc ≤ 40) (hac : ac ≤ 8) (hD0 : va_D (fun _ => True) (wM cI cZ r th tc nc ac ch U Z B L F)) {t : Nat} (ht : t < tc) : Met l yX1_nightsWith wsX1_nightsWith ({ frames := 2, cells := 0, slots := 0, locals := 45 }) (va_Pc [.ref (r 0), .int (nI t)] (rd D vwCl (tyA cI cZ) H)) (va_Qi (fun r (_ : Unit) => r = nI (ct (fun j => hs (U j) (nI t) && (Z j || !false)) nc)) (fun _ t8 => va_P D vwCl (wM cI cZ r 0 tc nc ac ch U Z B L F) t8.heap) (va_A (wM cI cZ r th tc nc ac ch U Z B L F) H.size)) 0 0 (va_A (wM cI cZ r th tc nc ac ch U Z B L F) H.size) := by
  refine Met.ofW (cc := cX1_nightsWith) (maxL := 2) (ret := (some .int)) (by decide) rfl ?_
  intro p e s m args below meth c s₁ B9 hml hv
  obtain ⟨rfl, hH, hK⟩ := hv
  subst hH
  have hx := B9.exec
  have hb := B9.bytes
  have hr := B9.returns
  have hts := atoms_spec (ws := wsX1_nightsWith) B9.pre
  have hown : s.vm.findClass RX1 = some m.cls := findClass_of_methodNamed B9.named
  have hlocks := B9.notSynchronized
  have hin : ∀ w ∈ u_ws RX1 TX1 10, w ∈ wsX1_nightsWith := fun w h => List.mem_cons_of_mem _ (List.mem_append_right _ h)
  have hD0 := hD0.self (sz := s.heap.size)
  generalize hAe : va_A (wM cI cZ r th tc nc ac ch U Z B L F) s.heap.size = A at hD0 ⊢
  have hA : ∀ q : Nat, s.heap.size ≤ q → A q := fun q h => by rw [← hAe]; exact Or.inr h
  have hS : va_S A s.heap s.heap [] := va_S.rf
  have hD := hD0
  have hl := lv_entry ([.ref (r 0), .int (nI t)]) (n := 2) (Nat.le_of_ble_eq_true rfl)
  rw [lg_entry_eq]
  generalize (lg_sl ([.ref (r 0), .int (nI t)]) ++ List.replicate (2 - (lg_sl ([.ref (r 0), .int (nI t)])).length) Slot.unset).toArray = ls at hl ⊢
  have hl : lv_has ls 2 [(0, .ref (r 0)), (1, .int (nI t))] := hl
  refine lv_aload_n hx hb dX1_nightsWith_0 rfl (lv_at hl 0 rfl) ?_
  refine lv_iconst (v := 0) hx hb dX1_nightsWith_1 (by decide) ?_
  refine va_put (D := D) (ci := 1) (v := .int 0) (ty := .int) (C := RX1) (T := TX1) (N := 10) hx hb hts hin tyX1 tyX1_ok nmX1 hown hK hP hD hS 0 rfl rfl 0 (by decide) (hts (.fieldLink RX1 26 "SmudgedStarModel" "thrown" "I") (List.mem_of_getElem? (i := 1) rfl)) (fun _ h9 => h9) rfl (by decide +kernel) rfl rfl (Nat.le_of_ble_eq_true rfl) dX1_nightsWith_2 (fun H locs hP hD hS => ?_)
  have hP : va_P D vwCl (wM cI cZ r 0 tc nc ac ch U Z B L F) H := hP
  have hD : va_D A (wM cI cZ r 0 tc nc ac ch U Z B L F) := va_D_re hD rfl
  refine lv_aload_n hx hb dX1_nightsWith_5 rfl (lv_at hl 0 rfl) ?_
  refine lv_iload_n hx hb dX1_nightsWith_6 rfl (lv_at hl 1 rfl) ?_
  refine pcV_i (As := [.int (nI t)]) (rest := []) ⟨hx, hb, hml, hown, hts⟩ (g_M_isThing l hP htc hnc hac (v := nI t)) (cwV 1 hts gX1_nightsWith_X1_isThing rfl rfl rfl hdX1_isThing ⟨Nat.le_of_ble_eq_true rfl, Nat.le_of_ble_eq_true rfl⟩) (va_recv hK hP (ci := 1) (q0 := 0) rfl rfl) hK rfl hl.1 (Nat.le_of_ble_eq_true rfl) rfl dX1_nightsWith_7 ⟨Nat.le_of_ble_eq_true rfl, Nat.le_of_ble_eq_true rfl⟩ ?_
  refine lv_ifb_eq (tgt := 22) hx hb dX1_nightsWith_10 (by decide) (fun c10 => absurd (c10.symm.trans (rg_in ht (by omega))) (by decide)) (fun c10 => ?_)
  refine lv_aload_n hx hb dX1_nightsWith_13 rfl (lv_at hl 0 rfl) ?_
  refine lv_iload_n hx hb dX1_nightsWith_14 rfl (lv_at hl 1 rfl) ?_
  refine lv_iconst (v := 0) hx hb dX1_nightsWith_15 (by decide) ?_
  refine lv_cst (y := bI false) rfl ?_
  refine pcV_i (As := [.int (nI t), .int (bI false)]) (rest := []) ⟨hx, hb, hml, hown, hts⟩ (g_M_nightsOf l hP htc hnc hac (t := t) (z := false)) (cwV 2 hts gX1_nightsWith_X1_nightsOf rfl rfl rfl hdX1_nightsOf ⟨Nat.le_of_ble_eq_true rfl, Nat.le_of_ble_eq_true rfl⟩) (va_recv hK hP (ci := 1) (q0 := 0) rfl rfl) hK rfl hl.1 (Nat.le_of_ble_eq_true rfl) rfl dX1_nightsWith_16 ⟨Nat.le_of_ble_eq_true rfl, Nat.le_of_ble_eq_true rfl⟩ ?_
  refine lv_goto (tgt := 27) hx hb dX1_nightsWith_19 (by decide) ?_
  have hPe : va_P D vwCl (wM cI cZ r 0 tc nc ac ch U Z B L F) H := hP
  exact W.iret (v := nI (ct (fun j => hs (U j) (nI t) && (Z j || !false)) nc)) hx hb hr (fun t9 ht9 hW9 => ⟨⟨nI (ct (fun j => hs (U j) (nI t) && (Z j || !false)) nc), (), rfl, rfl, by show va_P D vwCl _ t9.heap; rw [ht9]; exact hPe⟩, hS.F ht9⟩) hS.2.2 dX1_nightsWith_27
set_option maxHeartbeats 4000000 in
set_option maxRecDepth 100000 in
theorem wb_M_nightsWith (l : Launch) {D : va_G} {cI cZ : ClassId} {r : Nat → Nat} {th : Int32} {tc nc ac : Nat} {ch : Int32} {U : Nat → Int32} {Z : Nat → Bool} {B L F : Nat → Int32} {H : Heap} (hP : va_P D vwCl (wM cI cZ r th tc nc ac ch U Z B L F) H) (htc : tc ≤ 8) (hnc : nc ≤ 40) (hac : ac ≤ 8) (hD0 : va_D (fun _ => True) (wM cI cZ r th tc nc ac ch U Z B L F)) {v : Int32} (hv : v < 0 ∨ nI tc ≤ v) : Met l yX1_nightsWith wsX1_nightsWith ({ frames := 2, cells := 0, slots := 0, locals := 45 }) (va_Pc [.ref (r 0), .int v] (rd D vwCl (tyA cI cZ) H)) (va_Qi (fun r (_ : Unit) => r = 0) (fun _ t8 => va_P D vwCl (wM cI cZ r 1 tc nc ac ch U Z B L F) t8.heap) (va_A (wM cI cZ r th tc nc ac ch U Z B L F) H.size)) 0 0 (va_A (wM cI cZ r th tc nc ac ch U Z B L F) H.size) := by
  refine Met.ofW (cc := cX1_nightsWith) (maxL := 2) (ret := (some .int)) (by decide) rfl ?_
  intro p e s m args below meth c s₁ B9 hml hv
  obtain ⟨rfl, hH, hK⟩ := hv
  subst hH
  have hx := B9.exec
  have hb := B9.bytes
  have hr := B9.returns
  have hts := atoms_spec (ws := wsX1_nightsWith) B9.pre
  have hown : s.vm.findClass RX1 = some m.cls := findClass_of_methodNamed B9.named
  have hlocks := B9.notSynchronized
  have hin : ∀ w ∈ u_ws RX1 TX1 10, w ∈ wsX1_nightsWith := fun w h => List.mem_cons_of_mem _ (List.mem_append_right _ h)
  have hD0 := hD0.self (sz := s.heap.size)
  generalize hAe : va_A (wM cI cZ r th tc nc ac ch U Z B L F) s.heap.size = A at hD0 ⊢
  have hA : ∀ q : Nat, s.heap.size ≤ q → A q := fun q h => by rw [← hAe]; exact Or.inr h
  have hS : va_S A s.heap s.heap [] := va_S.rf
  have hD := hD0
  have hl := lv_entry ([.ref (r 0), .int v]) (n := 2) (Nat.le_of_ble_eq_true rfl)
  rw [lg_entry_eq]
  generalize (lg_sl ([.ref (r 0), .int v]) ++ List.replicate (2 - (lg_sl ([.ref (r 0), .int v])).length) Slot.unset).toArray = ls at hl ⊢
  have hl : lv_has ls 2 [(0, .ref (r 0)), (1, .int v)] := hl
  refine lv_aload_n hx hb dX1_nightsWith_0 rfl (lv_at hl 0 rfl) ?_
  refine lv_iconst (v := 0) hx hb dX1_nightsWith_1 (by decide) ?_
  refine va_put (D := D) (ci := 1) (v := .int 0) (ty := .int) (C := RX1) (T := TX1) (N := 10) hx hb hts hin tyX1 tyX1_ok nmX1 hown hK hP hD hS 0 rfl rfl 0 (by decide) (hts (.fieldLink RX1 26 "SmudgedStarModel" "thrown" "I") (List.mem_of_getElem? (i := 1) rfl)) (fun _ h9 => h9) rfl (by decide +kernel) rfl rfl (Nat.le_of_ble_eq_true rfl) dX1_nightsWith_2 (fun H locs hP hD hS => ?_)
  have hP : va_P D vwCl (wM cI cZ r 0 tc nc ac ch U Z B L F) H := hP
  have hD : va_D A (wM cI cZ r 0 tc nc ac ch U Z B L F) := va_D_re hD rfl
  refine lv_aload_n hx hb dX1_nightsWith_5 rfl (lv_at hl 0 rfl) ?_
  refine lv_iload_n hx hb dX1_nightsWith_6 rfl (lv_at hl 1 rfl) ?_
  refine pcV_i (As := [.int v]) (rest := []) ⟨hx, hb, hml, hown, hts⟩ (g_M_isThing l hP htc hnc hac (v := v)) (cwV 1 hts gX1_nightsWith_X1_isThing rfl rfl rfl hdX1_isThing ⟨Nat.le_of_ble_eq_true rfl, Nat.le_of_ble_eq_true rfl⟩) (va_recv hK hP (ci := 1) (q0 := 0) rfl rfl) hK rfl hl.1 (Nat.le_of_ble_eq_true rfl) rfl dX1_nightsWith_7 ⟨Nat.le_of_ble_eq_true rfl, Nat.le_of_ble_eq_true rfl⟩ ?_
  refine lv_ifb_eq (tgt := 22) hx hb dX1_nightsWith_10 (by decide) (fun c10 => ?_) (fun c10 => absurd (c10.symm.trans (rg_out (n := tc) (by omega) hv)) (by decide))
  refine lv_aload_n hx hb dX1_nightsWith_22 rfl (lv_at hl 0 rfl) ?_
  refine lv_iconst (v := 1) hx hb dX1_nightsWith_23 (by decide) ?_
  refine wcV_i (As := [.int 1]) (rest := []) ⟨hx, hb, hml, hown, hts⟩ (w_M_no l hP htc hnc hac (hD.weaken (fun _ _ _ _ => trivial)) (v := 1)) (cwV 1 hts gX1_nightsWith_X1_no rfl rfl rfl hdX1_no ⟨Nat.le_of_ble_eq_true rfl, Nat.le_of_ble_eq_true rfl⟩) (va_recv hK hP (ci := 1) (q0 := 0) rfl rfl) hK hS (va_free_all hD hS hA) rfl hl.1 (Nat.le_of_ble_eq_true rfl) rfl dX1_nightsWith_24 ⟨Nat.le_of_ble_eq_true rfl, Nat.le_of_ble_eq_true rfl⟩ (fun H locs hP hz1 hk1 hS => ?_)
  have hP : va_P D vwCl (wM cI cZ r 1 tc nc ac ch U Z B L F) H := hP
  have hD : va_D A (wM cI cZ r 1 tc nc ac ch U Z B L F) := va_D_re hD rfl
  have hPe : va_P D vwCl (wM cI cZ r 1 tc nc ac ch U Z B L F) H := hP
  exact W.iret (v := 0) hx hb hr (fun t9 ht9 hW9 => ⟨⟨0, (), rfl, rfl, by show va_P D vwCl _ t9.heap; rw [ht9]; exact hPe⟩, hS.F ht9⟩) hS.2.2 dX1_nightsWith_27
set_option maxHeartbeats 4000000 in
set_option maxRecDepth 100000 in
theorem w_M_smudgesWith (l : Launch) {D : va_G} {cI cZ : ClassId} {r : Nat → Nat} {th : Int32} {tc nc ac : Nat} {ch : Int32} {U : Nat → Int32} {Z : Nat → Bool} {B L F : Nat → Int32} {H : Heap} (hP : va_P D vwCl (wM cI cZ r th tc nc ac ch U Z B L F) H) (htc : tc ≤ 8) (hnc : nc ≤ 40) (hac : ac ≤ 8) (hD0 : va_D (fun _ => True) (wM cI cZ r th tc nc ac ch U Z B L F)) {t : Nat} (ht : t < tc) : Met l yX1_smudgesWith wsX1_smudgesWith ({ frames := 2, cells := 0, slots := 0, locals := 45 }) (va_Pc [.ref (r 0), .int (nI t)] (rd D vwCl (tyA cI cZ) H)) (va_Qi (fun r (_ : Unit) => r = nI (ct (fun j => hs (U j) (nI t) && (Z j || !true)) nc)) (fun _ t8 => va_P D vwCl (wM cI cZ r 0 tc nc ac ch U Z B L F) t8.heap) (va_A (wM cI cZ r th tc nc ac ch U Z B L F) H.size)) 0 0 (va_A (wM cI cZ r th tc nc ac ch U Z B L F) H.size) := by
  refine Met.ofW (cc := cX1_smudgesWith) (maxL := 2) (ret := (some .int)) (by decide) rfl ?_
  intro p e s m args below meth c s₁ B9 hml hv
  obtain ⟨rfl, hH, hK⟩ := hv
  subst hH
  have hx := B9.exec
  have hb := B9.bytes
  have hr := B9.returns
  have hts := atoms_spec (ws := wsX1_smudgesWith) B9.pre
  have hown : s.vm.findClass RX1 = some m.cls := findClass_of_methodNamed B9.named
  have hlocks := B9.notSynchronized
  have hin : ∀ w ∈ u_ws RX1 TX1 10, w ∈ wsX1_smudgesWith := fun w h => List.mem_cons_of_mem _ (List.mem_append_right _ h)
  have hD0 := hD0.self (sz := s.heap.size)
  generalize hAe : va_A (wM cI cZ r th tc nc ac ch U Z B L F) s.heap.size = A at hD0 ⊢
  have hA : ∀ q : Nat, s.heap.size ≤ q → A q := fun q h => by rw [← hAe]; exact Or.inr h
  have hS : va_S A s.heap s.heap [] := va_S.rf
  have hD := hD0
  have hl := lv_entry ([.ref (r 0), .int (nI t)]) (n := 2) (Nat.le_of_ble_eq_true rfl)
  rw [lg_entry_eq]
  generalize (lg_sl ([.ref (r 0), .int (nI t)]) ++ List.replicate (2 - (lg_sl ([.ref (r 0), .int (nI t)])).length) Slot.unset).toArray = ls at hl ⊢
  have hl : lv_has ls 2 [(0, .ref (r 0)), (1, .int (nI t))] := hl
  refine lv_aload_n hx hb dX1_smudgesWith_0 rfl (lv_at hl 0 rfl) ?_
  refine lv_iconst (v := 0) hx hb dX1_smudgesWith_1 (by decide) ?_
  refine va_put (D := D) (ci := 1) (v := .int 0) (ty := .int) (C := RX1) (T := TX1) (N := 10) hx hb hts hin tyX1 tyX1_ok nmX1 hown hK hP hD hS 0 rfl rfl 0 (by decide) (hts (.fieldLink RX1 26 "SmudgedStarModel" "thrown" "I") (List.mem_of_getElem? (i := 1) rfl)) (fun _ h9 => h9) rfl (by decide +kernel) rfl rfl (Nat.le_of_ble_eq_true rfl) dX1_smudgesWith_2 (fun H locs hP hD hS => ?_)
  have hP : va_P D vwCl (wM cI cZ r 0 tc nc ac ch U Z B L F) H := hP
  have hD : va_D A (wM cI cZ r 0 tc nc ac ch U Z B L F) := va_D_re hD rfl
  refine lv_aload_n hx hb dX1_smudgesWith_5 rfl (lv_at hl 0 rfl) ?_
  refine lv_iload_n hx hb dX1_smudgesWith_6 rfl (lv_at hl 1 rfl) ?_
  refine pcV_i (As := [.int (nI t)]) (rest := []) ⟨hx, hb, hml, hown, hts⟩ (g_M_isThing l hP htc hnc hac (v := nI t)) (cwV 1 hts gX1_smudgesWith_X1_isThing rfl rfl rfl hdX1_isThing ⟨Nat.le_of_ble_eq_true rfl, Nat.le_of_ble_eq_true rfl⟩) (va_recv hK hP (ci := 1) (q0 := 0) rfl rfl) hK rfl hl.1 (Nat.le_of_ble_eq_true rfl) rfl dX1_smudgesWith_7 ⟨Nat.le_of_ble_eq_true rfl, Nat.le_of_ble_eq_true rfl⟩ ?_
  refine lv_ifb_eq (tgt := 22) hx hb dX1_smudgesWith_10 (by decide) (fun c10 => absurd (c10.symm.trans (rg_in ht (by omega))) (by decide)) (fun c10 => ?_)
  refine lv_aload_n hx hb dX1_smudgesWith_13 rfl (lv_at hl 0 rfl) ?_
  refine lv_iload_n hx hb dX1_smudgesWith_14 rfl (lv_at hl 1 rfl) ?_
  refine lv_iconst (v := 1) hx hb dX1_smudgesWith_15 (by decide) ?_
  refine lv_cst (y := bI true) rfl ?_
  refine pcV_i (As := [.int (nI t), .int (bI true)]) (rest := []) ⟨hx, hb, hml, hown, hts⟩ (g_M_nightsOf l hP htc hnc hac (t := t) (z := true)) (cwV 2 hts gX1_smudgesWith_X1_nightsOf rfl rfl rfl hdX1_nightsOf ⟨Nat.le_of_ble_eq_true rfl, Nat.le_of_ble_eq_true rfl⟩) (va_recv hK hP (ci := 1) (q0 := 0) rfl rfl) hK rfl hl.1 (Nat.le_of_ble_eq_true rfl) rfl dX1_smudgesWith_16 ⟨Nat.le_of_ble_eq_true rfl, Nat.le_of_ble_eq_true rfl⟩ ?_
  refine lv_goto (tgt := 27) hx hb dX1_smudgesWith_19 (by decide) ?_
  have hPe : va_P D vwCl (wM cI cZ r 0 tc nc ac ch U Z B L F) H := hP
  exact W.iret (v := nI (ct (fun j => hs (U j) (nI t) && (Z j || !true)) nc)) hx hb hr (fun t9 ht9 hW9 => ⟨⟨nI (ct (fun j => hs (U j) (nI t) && (Z j || !true)) nc), (), rfl, rfl, by show va_P D vwCl _ t9.heap; rw [ht9]; exact hPe⟩, hS.F ht9⟩) hS.2.2 dX1_smudgesWith_27
set_option maxHeartbeats 4000000 in
set_option maxRecDepth 100000 in
theorem wb_M_smudgesWith (l : Launch) {D : va_G} {cI cZ : ClassId} {r : Nat → Nat} {th : Int32} {tc nc ac : Nat} {ch : Int32} {U : Nat → Int32} {Z : Nat → Bool} {B L F : Nat → Int32} {H : Heap} (hP : va_P D vwCl (wM cI cZ r th tc nc ac ch U Z B L F) H) (htc : tc ≤ 8) (hnc : nc ≤ 40) (hac : ac ≤ 8) (hD0 : va_D (fun _ => True) (wM cI cZ r th tc nc ac ch U Z B L F)) {v : Int32} (hv : v < 0 ∨ nI tc ≤ v) : Met l yX1_smudgesWith wsX1_smudgesWith ({ frames := 2, cells := 0, slots := 0, locals := 45 }) (va_Pc [.ref (r 0), .int v] (rd D vwCl (tyA cI cZ) H)) (va_Qi (fun r (_ : Unit) => r = 0) (fun _ t8 => va_P D vwCl (wM cI cZ r 1 tc nc ac ch U Z B L F) t8.heap) (va_A (wM cI cZ r th tc nc ac ch U Z B L F) H.size)) 0 0 (va_A (wM cI cZ r th tc nc ac ch U Z B L F) H.size) := by
  refine Met.ofW (cc := cX1_smudgesWith) (maxL := 2) (ret := (some .int)) (by decide) rfl ?_
  intro p e s m args below meth c s₁ B9 hml hv
  obtain ⟨rfl, hH, hK⟩ := hv
  subst hH
  have hx := B9.exec
  have hb := B9.bytes
  have hr := B9.returns
  have hts := atoms_spec (ws := wsX1_smudgesWith) B9.pre
  have hown : s.vm.findClass RX1 = some m.cls := findClass_of_methodNamed B9.named
  have hlocks := B9.notSynchronized
  have hin : ∀ w ∈ u_ws RX1 TX1 10, w ∈ wsX1_smudgesWith := fun w h => List.mem_cons_of_mem _ (List.mem_append_right _ h)
  have hD0 := hD0.self (sz := s.heap.size)
  generalize hAe : va_A (wM cI cZ r th tc nc ac ch U Z B L F) s.heap.size = A at hD0 ⊢
  have hA : ∀ q : Nat, s.heap.size ≤ q → A q := fun q h => by rw [← hAe]; exact Or.inr h
  have hS : va_S A s.heap s.heap [] := va_S.rf
  have hD := hD0
  have hl := lv_entry ([.ref (r 0), .int v]) (n := 2) (Nat.le_of_ble_eq_true rfl)
  rw [lg_entry_eq]
  generalize (lg_sl ([.ref (r 0), .int v]) ++ List.replicate (2 - (lg_sl ([.ref (r 0), .int v])).length) Slot.unset).toArray = ls at hl ⊢
  have hl : lv_has ls 2 [(0, .ref (r 0)), (1, .int v)] := hl
  refine lv_aload_n hx hb dX1_smudgesWith_0 rfl (lv_at hl 0 rfl) ?_
  refine lv_iconst (v := 0) hx hb dX1_smudgesWith_1 (by decide) ?_
  refine va_put (D := D) (ci := 1) (v := .int 0) (ty := .int) (C := RX1) (T := TX1) (N := 10) hx hb hts hin tyX1 tyX1_ok nmX1 hown hK hP hD hS 0 rfl rfl 0 (by decide) (hts (.fieldLink RX1 26 "SmudgedStarModel" "thrown" "I") (List.mem_of_getElem? (i := 1) rfl)) (fun _ h9 => h9) rfl (by decide +kernel) rfl rfl (Nat.le_of_ble_eq_true rfl) dX1_smudgesWith_2 (fun H locs hP hD hS => ?_)
  have hP : va_P D vwCl (wM cI cZ r 0 tc nc ac ch U Z B L F) H := hP
  have hD : va_D A (wM cI cZ r 0 tc nc ac ch U Z B L F) := va_D_re hD rfl
  refine lv_aload_n hx hb dX1_smudgesWith_5 rfl (lv_at hl 0 rfl) ?_
  refine lv_iload_n hx hb dX1_smudgesWith_6 rfl (lv_at hl 1 rfl) ?_
  refine pcV_i (As := [.int v]) (rest := []) ⟨hx, hb, hml, hown, hts⟩ (g_M_isThing l hP htc hnc hac (v := v)) (cwV 1 hts gX1_smudgesWith_X1_isThing rfl rfl rfl hdX1_isThing ⟨Nat.le_of_ble_eq_true rfl, Nat.le_of_ble_eq_true rfl⟩) (va_recv hK hP (ci := 1) (q0 := 0) rfl rfl) hK rfl hl.1 (Nat.le_of_ble_eq_true rfl) rfl dX1_smudgesWith_7 ⟨Nat.le_of_ble_eq_true rfl, Nat.le_of_ble_eq_true rfl⟩ ?_
  refine lv_ifb_eq (tgt := 22) hx hb dX1_smudgesWith_10 (by decide) (fun c10 => ?_) (fun c10 => absurd (c10.symm.trans (rg_out (n := tc) (by omega) hv)) (by decide))
  refine lv_aload_n hx hb dX1_smudgesWith_22 rfl (lv_at hl 0 rfl) ?_
  refine lv_iconst (v := 1) hx hb dX1_smudgesWith_23 (by decide) ?_
  refine wcV_i (As := [.int 1]) (rest := []) ⟨hx, hb, hml, hown, hts⟩ (w_M_no l hP htc hnc hac (hD.weaken (fun _ _ _ _ => trivial)) (v := 1)) (cwV 1 hts gX1_smudgesWith_X1_no rfl rfl rfl hdX1_no ⟨Nat.le_of_ble_eq_true rfl, Nat.le_of_ble_eq_true rfl⟩) (va_recv hK hP (ci := 1) (q0 := 0) rfl rfl) hK hS (va_free_all hD hS hA) rfl hl.1 (Nat.le_of_ble_eq_true rfl) rfl dX1_smudgesWith_24 ⟨Nat.le_of_ble_eq_true rfl, Nat.le_of_ble_eq_true rfl⟩ (fun H locs hP hz1 hk1 hS => ?_)
  have hP : va_P D vwCl (wM cI cZ r 1 tc nc ac ch U Z B L F) H := hP
  have hD : va_D A (wM cI cZ r 1 tc nc ac ch U Z B L F) := va_D_re hD rfl
  have hPe : va_P D vwCl (wM cI cZ r 1 tc nc ac ch U Z B L F) H := hP
  exact W.iret (v := 0) hx hb hr (fun t9 ht9 hW9 => ⟨⟨0, (), rfl, rfl, by show va_P D vwCl _ t9.heap; rw [ht9]; exact hPe⟩, hS.F ht9⟩) hS.2.2 dX1_smudgesWith_27
set_option maxHeartbeats 4000000 in
set_option maxRecDepth 100000 in
theorem w_M_isCleared (l : Launch) {D : va_G} {cI cZ : ClassId} {r : Nat → Nat} {th : Int32} {tc nc ac : Nat} {ch : Int32} {U : Nat → Int32} {Z : Nat → Bool} {B L F : Nat → Int32} {H : Heap} (hP : va_P D vwCl (wM cI cZ r th tc nc ac ch U Z B L F) H) (htc : tc ≤ 8) (hnc : nc ≤ 40) (hac : ac ≤ 8) (hD0 : va_D (fun _ => True) (wM cI cZ r th tc nc ac ch U Z B L F)) {t : Nat} (ht : t < tc) : Met l yX1_isCleared wsX1_isCleared ({ frames := 2, cells := 0, slots := 0, locals := 43 }) (va_Pc [.ref (r 0), .int (nI t)] (rd D vwCl (tyA cI cZ) H)) (va_Qi (fun r (_ : Unit) => r = bI (hs (cld U Z nc) (nI t))) (fun _ t8 => va_P D vwCl (wM cI cZ r 0 tc nc ac ch U Z B L F) t8.heap) (va_A (wM cI cZ r th tc nc ac ch U Z B L F) H.size)) 0 0 (va_A (wM cI cZ r th tc nc ac ch U Z B L F) H.size) := by
  refine Met.ofW (cc := cX1_isCleared) (maxL := 2) (ret := (some .boolean)) (by decide) rfl ?_
  intro p e s m args below meth c s₁ B9 hml hv
  obtain ⟨rfl, hH, hK⟩ := hv
  subst hH
  have hx := B9.exec
  have hb := B9.bytes
  have hr := B9.returns
  have hts := atoms_spec (ws := wsX1_isCleared) B9.pre
  have hown : s.vm.findClass RX1 = some m.cls := findClass_of_methodNamed B9.named
  have hlocks := B9.notSynchronized
  have hin : ∀ w ∈ u_ws RX1 TX1 10, w ∈ wsX1_isCleared := fun w h => List.mem_cons_of_mem _ (List.mem_append_right _ h)
  have hD0 := hD0.self (sz := s.heap.size)
  generalize hAe : va_A (wM cI cZ r th tc nc ac ch U Z B L F) s.heap.size = A at hD0 ⊢
  have hA : ∀ q : Nat, s.heap.size ≤ q → A q := fun q h => by rw [← hAe]; exact Or.inr h
  have hS : va_S A s.heap s.heap [] := va_S.rf
  have hD := hD0
  have hl := lv_entry ([.ref (r 0), .int (nI t)]) (n := 2) (Nat.le_of_ble_eq_true rfl)
  rw [lg_entry_eq]
  generalize (lg_sl ([.ref (r 0), .int (nI t)]) ++ List.replicate (2 - (lg_sl ([.ref (r 0), .int (nI t)])).length) Slot.unset).toArray = ls at hl ⊢
  have hl : lv_has ls 2 [(0, .ref (r 0)), (1, .int (nI t))] := hl
  refine lv_aload_n hx hb dX1_isCleared_0 rfl (lv_at hl 0 rfl) ?_
  refine lv_iconst (v := 0) hx hb dX1_isCleared_1 (by decide) ?_
  refine va_put (D := D) (ci := 1) (v := .int 0) (ty := .int) (C := RX1) (T := TX1) (N := 10) hx hb hts hin tyX1 tyX1_ok nmX1 hown hK hP hD hS 0 rfl rfl 0 (by decide) (hts (.fieldLink RX1 26 "SmudgedStarModel" "thrown" "I") (List.mem_of_getElem? (i := 1) rfl)) (fun _ h9 => h9) rfl (by decide +kernel) rfl rfl (Nat.le_of_ble_eq_true rfl) dX1_isCleared_2 (fun H locs hP hD hS => ?_)
  have hP : va_P D vwCl (wM cI cZ r 0 tc nc ac ch U Z B L F) H := hP
  have hD : va_D A (wM cI cZ r 0 tc nc ac ch U Z B L F) := va_D_re hD rfl
  refine lv_aload_n hx hb dX1_isCleared_5 rfl (lv_at hl 0 rfl) ?_
  refine lv_iload_n hx hb dX1_isCleared_6 rfl (lv_at hl 1 rfl) ?_
  refine pcV_i (As := [.int (nI t)]) (rest := []) ⟨hx, hb, hml, hown, hts⟩ (g_M_isThing l hP htc hnc hac (v := nI t)) (cwV 1 hts gX1_isCleared_X1_isThing rfl rfl rfl hdX1_isThing ⟨Nat.le_of_ble_eq_true rfl, Nat.le_of_ble_eq_true rfl⟩) (va_recv hK hP (ci := 1) (q0 := 0) rfl rfl) hK rfl hl.1 (Nat.le_of_ble_eq_true rfl) rfl dX1_isCleared_7 ⟨Nat.le_of_ble_eq_true rfl, Nat.le_of_ble_eq_true rfl⟩ ?_
  refine lv_ifb_eq (tgt := 24) hx hb dX1_isCleared_10 (by decide) (fun c10 => absurd (c10.symm.trans (rg_in ht (by omega))) (by decide)) (fun c10 => ?_)
  refine lv_aload_n hx hb dX1_isCleared_13 rfl (lv_at hl 0 rfl) ?_
  refine pcV_i (As := []) (rest := []) ⟨hx, hb, hml, hown, hts⟩ (g_M_cleared l hP htc hnc hac) (cwV 0 hts gX1_isCleared_X1_cleared rfl rfl rfl hdX1_cleared ⟨Nat.le_of_ble_eq_true rfl, Nat.le_of_ble_eq_true rfl⟩) (va_recv hK hP (ci := 1) (q0 := 0) rfl rfl) hK rfl hl.1 (Nat.le_of_ble_eq_true rfl) rfl dX1_isCleared_14 ⟨Nat.le_of_ble_eq_true rfl, Nat.le_of_ble_eq_true rfl⟩ ?_
  refine lv_iload_n hx hb dX1_isCleared_17 rfl (lv_at hl 1 rfl) ?_
  refine pcS_i (As := [.int (cld U Z nc), .int (nI t)]) (rest := []) ⟨hx, hb, hml, hown, hts⟩ (g_M_has l (cld U Z nc) (nI t)) (va_cwS 2 hts gX1_isCleared_X1_has rfl rfl rfl hdX1_has ⟨Nat.le_of_ble_eq_true rfl, Nat.le_of_ble_eq_true rfl⟩) rfl hl.1 (Nat.le_of_ble_eq_true rfl) rfl dX1_isCleared_18 ⟨Nat.le_of_ble_eq_true rfl, Nat.le_of_ble_eq_true rfl⟩ ?_
  refine lv_goto (tgt := 29) hx hb dX1_isCleared_21 (by decide) ?_
  have hPe : va_P D vwCl (wM cI cZ r 0 tc nc ac ch U Z B L F) H := hP
  exact W.zret (v := bI (hs (cld U Z nc) (nI t))) (ty := .boolean) hx hb hr (bI_nar _) (fun t9 ht9 hW9 => ⟨⟨bI (hs (cld U Z nc) (nI t)), (), rfl, rfl, by show va_P D vwCl _ t9.heap; rw [ht9]; exact hPe⟩, hS.F ht9⟩) hS.2.2 dX1_isCleared_29
set_option maxHeartbeats 4000000 in
set_option maxRecDepth 100000 in
theorem wb_M_isCleared (l : Launch) {D : va_G} {cI cZ : ClassId} {r : Nat → Nat} {th : Int32} {tc nc ac : Nat} {ch : Int32} {U : Nat → Int32} {Z : Nat → Bool} {B L F : Nat → Int32} {H : Heap} (hP : va_P D vwCl (wM cI cZ r th tc nc ac ch U Z B L F) H) (htc : tc ≤ 8) (hnc : nc ≤ 40) (hac : ac ≤ 8) (hD0 : va_D (fun _ => True) (wM cI cZ r th tc nc ac ch U Z B L F)) {v : Int32} (hv : v < 0 ∨ nI tc ≤ v) : Met l yX1_isCleared wsX1_isCleared ({ frames := 2, cells := 0, slots := 0, locals := 43 }) (va_Pc [.ref (r 0), .int v] (rd D vwCl (tyA cI cZ) H)) (va_Qi (fun r (_ : Unit) => r = 0) (fun _ t8 => va_P D vwCl (wM cI cZ r 1 tc nc ac ch U Z B L F) t8.heap) (va_A (wM cI cZ r th tc nc ac ch U Z B L F) H.size)) 0 0 (va_A (wM cI cZ r th tc nc ac ch U Z B L F) H.size) := by
  refine Met.ofW (cc := cX1_isCleared) (maxL := 2) (ret := (some .boolean)) (by decide) rfl ?_
  intro p e s m args below meth c s₁ B9 hml hv
  obtain ⟨rfl, hH, hK⟩ := hv
  subst hH
  have hx := B9.exec
  have hb := B9.bytes
  have hr := B9.returns
  have hts := atoms_spec (ws := wsX1_isCleared) B9.pre
  have hown : s.vm.findClass RX1 = some m.cls := findClass_of_methodNamed B9.named
  have hlocks := B9.notSynchronized
  have hin : ∀ w ∈ u_ws RX1 TX1 10, w ∈ wsX1_isCleared := fun w h => List.mem_cons_of_mem _ (List.mem_append_right _ h)
  have hD0 := hD0.self (sz := s.heap.size)
  generalize hAe : va_A (wM cI cZ r th tc nc ac ch U Z B L F) s.heap.size = A at hD0 ⊢
  have hA : ∀ q : Nat, s.heap.size ≤ q → A q := fun q h => by rw [← hAe]; exact Or.inr h
  have hS : va_S A s.heap s.heap [] := va_S.rf
  have hD := hD0
  have hl := lv_entry ([.ref (r 0), .int v]) (n := 2) (Nat.le_of_ble_eq_true rfl)
  rw [lg_entry_eq]
  generalize (lg_sl ([.ref (r 0), .int v]) ++ List.replicate (2 - (lg_sl ([.ref (r 0), .int v])).length) Slot.unset).toArray = ls at hl ⊢
  have hl : lv_has ls 2 [(0, .ref (r 0)), (1, .int v)] := hl
  refine lv_aload_n hx hb dX1_isCleared_0 rfl (lv_at hl 0 rfl) ?_
  refine lv_iconst (v := 0) hx hb dX1_isCleared_1 (by decide) ?_
  refine va_put (D := D) (ci := 1) (v := .int 0) (ty := .int) (C := RX1) (T := TX1) (N := 10) hx hb hts hin tyX1 tyX1_ok nmX1 hown hK hP hD hS 0 rfl rfl 0 (by decide) (hts (.fieldLink RX1 26 "SmudgedStarModel" "thrown" "I") (List.mem_of_getElem? (i := 1) rfl)) (fun _ h9 => h9) rfl (by decide +kernel) rfl rfl (Nat.le_of_ble_eq_true rfl) dX1_isCleared_2 (fun H locs hP hD hS => ?_)
  have hP : va_P D vwCl (wM cI cZ r 0 tc nc ac ch U Z B L F) H := hP
  have hD : va_D A (wM cI cZ r 0 tc nc ac ch U Z B L F) := va_D_re hD rfl
  refine lv_aload_n hx hb dX1_isCleared_5 rfl (lv_at hl 0 rfl) ?_
  refine lv_iload_n hx hb dX1_isCleared_6 rfl (lv_at hl 1 rfl) ?_
  refine pcV_i (As := [.int v]) (rest := []) ⟨hx, hb, hml, hown, hts⟩ (g_M_isThing l hP htc hnc hac (v := v)) (cwV 1 hts gX1_isCleared_X1_isThing rfl rfl rfl hdX1_isThing ⟨Nat.le_of_ble_eq_true rfl, Nat.le_of_ble_eq_true rfl⟩) (va_recv hK hP (ci := 1) (q0 := 0) rfl rfl) hK rfl hl.1 (Nat.le_of_ble_eq_true rfl) rfl dX1_isCleared_7 ⟨Nat.le_of_ble_eq_true rfl, Nat.le_of_ble_eq_true rfl⟩ ?_
  refine lv_ifb_eq (tgt := 24) hx hb dX1_isCleared_10 (by decide) (fun c10 => ?_) (fun c10 => absurd (c10.symm.trans (rg_out (n := tc) (by omega) hv)) (by decide))
  refine lv_aload_n hx hb dX1_isCleared_24 rfl (lv_at hl 0 rfl) ?_
  refine lv_iconst (v := 1) hx hb dX1_isCleared_25 (by decide) ?_
  refine wcV_i (As := [.int 1]) (rest := []) ⟨hx, hb, hml, hown, hts⟩ (w_M_isNot l hP htc hnc hac (hD.weaken (fun _ _ _ _ => trivial)) (v := 1)) (cwV 1 hts gX1_isCleared_X1_isNot rfl rfl rfl hdX1_isNot ⟨Nat.le_of_ble_eq_true rfl, Nat.le_of_ble_eq_true rfl⟩) (va_recv hK hP (ci := 1) (q0 := 0) rfl rfl) hK hS (va_free_all hD hS hA) rfl hl.1 (Nat.le_of_ble_eq_true rfl) rfl dX1_isCleared_26 ⟨Nat.le_of_ble_eq_true rfl, Nat.le_of_ble_eq_true rfl⟩ (fun H locs hP hz1 hk1 hS => ?_)
  have hP : va_P D vwCl (wM cI cZ r 1 tc nc ac ch U Z B L F) H := hP
  have hD : va_D A (wM cI cZ r 1 tc nc ac ch U Z B L F) := va_D_re hD rfl
  have hPe : va_P D vwCl (wM cI cZ r 1 tc nc ac ch U Z B L F) H := hP
  exact W.zret (v := 0) (ty := .boolean) hx hb hr (rfl) (fun t9 ht9 hW9 => ⟨⟨0, (), rfl, rfl, by show va_P D vwCl _ t9.heap; rw [ht9]; exact hPe⟩, hS.F ht9⟩) hS.2.2 dX1_isCleared_29
set_option maxHeartbeats 4000000 in
set_option maxRecDepth 100000 in
theorem w_M_isProved (l : Launch) {D : va_G} {cI cZ : ClassId} {r : Nat → Nat} {th : Int32} {tc nc ac : Nat} {ch : Int32} {U : Nat → Int32} {Z : Nat → Bool} {B L F : Nat → Int32} {H : Heap} (hP : va_P D vwCl (wM cI cZ r th tc nc ac ch U Z B L F) H) (htc : tc ≤ 8) (hnc : nc ≤ 40) (hac : ac ≤ 8) (hD0 : va_D (fun _ => True) (wM cI cZ r th tc nc ac ch U Z B L F)) {t : Nat} (ht : t < tc) : Met l yX1_isProved wsX1_isProved ({ frames := 2, cells := 0, slots := 0, locals := 45 }) (va_Pc [.ref (r 0), .int (nI t)] (rd D vwCl (tyA cI cZ) H)) (va_Qi (fun r (_ : Unit) => r = bI (anyb (fun j => Z j && hs (U j) (nI t) && decide (U j &&& ((cld U Z nc ^^^ (-1)) &&& (((1 : Int32) <<< (nI t &&& 31)) ^^^ (-1))) = 0)) nc)) (fun _ t8 => va_P D vwCl (wM cI cZ r 0 tc nc ac ch U Z B L F) t8.heap) (va_A (wM cI cZ r th tc nc ac ch U Z B L F) H.size)) 0 0 (va_A (wM cI cZ r th tc nc ac ch U Z B L F) H.size) := by
  refine Met.ofW (cc := cX1_isProved) (maxL := 2) (ret := (some .boolean)) (by decide) rfl ?_
  intro p e s m args below meth c s₁ B9 hml hv
  obtain ⟨rfl, hH, hK⟩ := hv
  subst hH
  have hx := B9.exec
  have hb := B9.bytes
  have hr := B9.returns
  have hts := atoms_spec (ws := wsX1_isProved) B9.pre
  have hown : s.vm.findClass RX1 = some m.cls := findClass_of_methodNamed B9.named
  have hlocks := B9.notSynchronized
  have hin : ∀ w ∈ u_ws RX1 TX1 10, w ∈ wsX1_isProved := fun w h => List.mem_cons_of_mem _ (List.mem_append_right _ h)
  have hD0 := hD0.self (sz := s.heap.size)
  generalize hAe : va_A (wM cI cZ r th tc nc ac ch U Z B L F) s.heap.size = A at hD0 ⊢
  have hA : ∀ q : Nat, s.heap.size ≤ q → A q := fun q h => by rw [← hAe]; exact Or.inr h
  have hS : va_S A s.heap s.heap [] := va_S.rf
  have hD := hD0
  have hl := lv_entry ([.ref (r 0), .int (nI t)]) (n := 2) (Nat.le_of_ble_eq_true rfl)
  rw [lg_entry_eq]
  generalize (lg_sl ([.ref (r 0), .int (nI t)]) ++ List.replicate (2 - (lg_sl ([.ref (r 0), .int (nI t)])).length) Slot.unset).toArray = ls at hl ⊢
  have hl : lv_has ls 2 [(0, .ref (r 0)), (1, .int (nI t))] := hl
  refine lv_aload_n hx hb dX1_isProved_0 rfl (lv_at hl 0 rfl) ?_
  refine lv_iconst (v := 0) hx hb dX1_isProved_1 (by decide) ?_
  refine va_put (D := D) (ci := 1) (v := .int 0) (ty := .int) (C := RX1) (T := TX1) (N := 10) hx hb hts hin tyX1 tyX1_ok nmX1 hown hK hP hD hS 0 rfl rfl 0 (by decide) (hts (.fieldLink RX1 26 "SmudgedStarModel" "thrown" "I") (List.mem_of_getElem? (i := 1) rfl)) (fun _ h9 => h9) rfl (by decide +kernel) rfl rfl (Nat.le_of_ble_eq_true rfl) dX1_isProved_2 (fun H locs hP hD hS => ?_)
  have hP : va_P D vwCl (wM cI cZ r 0 tc nc ac ch U Z B L F) H := hP
  have hD : va_D A (wM cI cZ r 0 tc nc ac ch U Z B L F) := va_D_re hD rfl
  refine lv_aload_n hx hb dX1_isProved_5 rfl (lv_at hl 0 rfl) ?_
  refine lv_iload_n hx hb dX1_isProved_6 rfl (lv_at hl 1 rfl) ?_
  refine pcV_i (As := [.int (nI t)]) (rest := []) ⟨hx, hb, hml, hown, hts⟩ (g_M_isThing l hP htc hnc hac (v := nI t)) (cwV 1 hts gX1_isProved_X1_isThing rfl rfl rfl hdX1_isThing ⟨Nat.le_of_ble_eq_true rfl, Nat.le_of_ble_eq_true rfl⟩) (va_recv hK hP (ci := 1) (q0 := 0) rfl rfl) hK rfl hl.1 (Nat.le_of_ble_eq_true rfl) rfl dX1_isProved_7 ⟨Nat.le_of_ble_eq_true rfl, Nat.le_of_ble_eq_true rfl⟩ ?_
  refine lv_ifb_eq (tgt := 21) hx hb dX1_isProved_10 (by decide) (fun c10 => absurd (c10.symm.trans (rg_in ht (by omega))) (by decide)) (fun c10 => ?_)
  refine lv_aload_n hx hb dX1_isProved_13 rfl (lv_at hl 0 rfl) ?_
  refine lv_iload_n hx hb dX1_isProved_14 rfl (lv_at hl 1 rfl) ?_
  refine pcV_i (As := [.int (nI t)]) (rest := []) ⟨hx, hb, hml, hown, hts⟩ (g_M_proved l hP htc hnc hac (t := t)) (cwV 1 hts gX1_isProved_X1_proved rfl rfl rfl hdX1_proved ⟨Nat.le_of_ble_eq_true rfl, Nat.le_of_ble_eq_true rfl⟩) (va_recv hK hP (ci := 1) (q0 := 0) rfl rfl) hK rfl hl.1 (Nat.le_of_ble_eq_true rfl) rfl dX1_isProved_15 ⟨Nat.le_of_ble_eq_true rfl, Nat.le_of_ble_eq_true rfl⟩ ?_
  refine lv_goto (tgt := 26) hx hb dX1_isProved_18 (by decide) ?_
  have hPe : va_P D vwCl (wM cI cZ r 0 tc nc ac ch U Z B L F) H := hP
  exact W.zret (v := bI (anyb (fun j => Z j && hs (U j) (nI t) && decide (U j &&& ((cld U Z nc ^^^ (-1)) &&& (((1 : Int32) <<< (nI t &&& 31)) ^^^ (-1))) = 0)) nc)) (ty := .boolean) hx hb hr (bI_nar _) (fun t9 ht9 hW9 => ⟨⟨bI (anyb (fun j => Z j && hs (U j) (nI t) && decide (U j &&& ((cld U Z nc ^^^ (-1)) &&& (((1 : Int32) <<< (nI t &&& 31)) ^^^ (-1))) = 0)) nc), (), rfl, rfl, by show va_P D vwCl _ t9.heap; rw [ht9]; exact hPe⟩, hS.F ht9⟩) hS.2.2 dX1_isProved_26
set_option maxHeartbeats 4000000 in
set_option maxRecDepth 100000 in
theorem wb_M_isProved (l : Launch) {D : va_G} {cI cZ : ClassId} {r : Nat → Nat} {th : Int32} {tc nc ac : Nat} {ch : Int32} {U : Nat → Int32} {Z : Nat → Bool} {B L F : Nat → Int32} {H : Heap} (hP : va_P D vwCl (wM cI cZ r th tc nc ac ch U Z B L F) H) (htc : tc ≤ 8) (hnc : nc ≤ 40) (hac : ac ≤ 8) (hD0 : va_D (fun _ => True) (wM cI cZ r th tc nc ac ch U Z B L F)) {v : Int32} (hv : v < 0 ∨ nI tc ≤ v) : Met l yX1_isProved wsX1_isProved ({ frames := 2, cells := 0, slots := 0, locals := 45 }) (va_Pc [.ref (r 0), .int v] (rd D vwCl (tyA cI cZ) H)) (va_Qi (fun r (_ : Unit) => r = 0) (fun _ t8 => va_P D vwCl (wM cI cZ r 1 tc nc ac ch U Z B L F) t8.heap) (va_A (wM cI cZ r th tc nc ac ch U Z B L F) H.size)) 0 0 (va_A (wM cI cZ r th tc nc ac ch U Z B L F) H.size) := by
  refine Met.ofW (cc := cX1_isProved) (maxL := 2) (ret := (some .boolean)) (by decide) rfl ?_
  intro p e s m args below meth c s₁ B9 hml hv
  obtain ⟨rfl, hH, hK⟩ := hv
  subst hH
  have hx := B9.exec
  have hb := B9.bytes
  have hr := B9.returns
  have hts := atoms_spec (ws := wsX1_isProved) B9.pre
  have hown : s.vm.findClass RX1 = some m.cls := findClass_of_methodNamed B9.named
  have hlocks := B9.notSynchronized
  have hin : ∀ w ∈ u_ws RX1 TX1 10, w ∈ wsX1_isProved := fun w h => List.mem_cons_of_mem _ (List.mem_append_right _ h)
  have hD0 := hD0.self (sz := s.heap.size)
  generalize hAe : va_A (wM cI cZ r th tc nc ac ch U Z B L F) s.heap.size = A at hD0 ⊢
  have hA : ∀ q : Nat, s.heap.size ≤ q → A q := fun q h => by rw [← hAe]; exact Or.inr h
  have hS : va_S A s.heap s.heap [] := va_S.rf
  have hD := hD0
  have hl := lv_entry ([.ref (r 0), .int v]) (n := 2) (Nat.le_of_ble_eq_true rfl)
  rw [lg_entry_eq]
  generalize (lg_sl ([.ref (r 0), .int v]) ++ List.replicate (2 - (lg_sl ([.ref (r 0), .int v])).length) Slot.unset).toArray = ls at hl ⊢
  have hl : lv_has ls 2 [(0, .ref (r 0)), (1, .int v)] := hl
  refine lv_aload_n hx hb dX1_isProved_0 rfl (lv_at hl 0 rfl) ?_
  refine lv_iconst (v := 0) hx hb dX1_isProved_1 (by decide) ?_
  refine va_put (D := D) (ci := 1) (v := .int 0) (ty := .int) (C := RX1) (T := TX1) (N := 10) hx hb hts hin tyX1 tyX1_ok nmX1 hown hK hP hD hS 0 rfl rfl 0 (by decide) (hts (.fieldLink RX1 26 "SmudgedStarModel" "thrown" "I") (List.mem_of_getElem? (i := 1) rfl)) (fun _ h9 => h9) rfl (by decide +kernel) rfl rfl (Nat.le_of_ble_eq_true rfl) dX1_isProved_2 (fun H locs hP hD hS => ?_)
  have hP : va_P D vwCl (wM cI cZ r 0 tc nc ac ch U Z B L F) H := hP
  have hD : va_D A (wM cI cZ r 0 tc nc ac ch U Z B L F) := va_D_re hD rfl
  refine lv_aload_n hx hb dX1_isProved_5 rfl (lv_at hl 0 rfl) ?_
  refine lv_iload_n hx hb dX1_isProved_6 rfl (lv_at hl 1 rfl) ?_
  refine pcV_i (As := [.int v]) (rest := []) ⟨hx, hb, hml, hown, hts⟩ (g_M_isThing l hP htc hnc hac (v := v)) (cwV 1 hts gX1_isProved_X1_isThing rfl rfl rfl hdX1_isThing ⟨Nat.le_of_ble_eq_true rfl, Nat.le_of_ble_eq_true rfl⟩) (va_recv hK hP (ci := 1) (q0 := 0) rfl rfl) hK rfl hl.1 (Nat.le_of_ble_eq_true rfl) rfl dX1_isProved_7 ⟨Nat.le_of_ble_eq_true rfl, Nat.le_of_ble_eq_true rfl⟩ ?_
  refine lv_ifb_eq (tgt := 21) hx hb dX1_isProved_10 (by decide) (fun c10 => ?_) (fun c10 => absurd (c10.symm.trans (rg_out (n := tc) (by omega) hv)) (by decide))
  refine lv_aload_n hx hb dX1_isProved_21 rfl (lv_at hl 0 rfl) ?_
  refine lv_iconst (v := 1) hx hb dX1_isProved_22 (by decide) ?_
  refine wcV_i (As := [.int 1]) (rest := []) ⟨hx, hb, hml, hown, hts⟩ (w_M_isNot l hP htc hnc hac (hD.weaken (fun _ _ _ _ => trivial)) (v := 1)) (cwV 1 hts gX1_isProved_X1_isNot rfl rfl rfl hdX1_isNot ⟨Nat.le_of_ble_eq_true rfl, Nat.le_of_ble_eq_true rfl⟩) (va_recv hK hP (ci := 1) (q0 := 0) rfl rfl) hK hS (va_free_all hD hS hA) rfl hl.1 (Nat.le_of_ble_eq_true rfl) rfl dX1_isProved_23 ⟨Nat.le_of_ble_eq_true rfl, Nat.le_of_ble_eq_true rfl⟩ (fun H locs hP hz1 hk1 hS => ?_)
  have hP : va_P D vwCl (wM cI cZ r 1 tc nc ac ch U Z B L F) H := hP
  have hD : va_D A (wM cI cZ r 1 tc nc ac ch U Z B L F) := va_D_re hD rfl
  have hPe : va_P D vwCl (wM cI cZ r 1 tc nc ac ch U Z B L F) H := hP
  exact W.zret (v := 0) (ty := .boolean) hx hb hr (rfl) (fun t9 ht9 hW9 => ⟨⟨0, (), rfl, rfl, by show va_P D vwCl _ t9.heap; rw [ht9]; exact hPe⟩, hS.F ht9⟩) hS.2.2 dX1_isProved_26
set_option maxHeartbeats 4000000 in
set_option maxRecDepth 100000 in
theorem w_M_setsWith (l : Launch) {D : va_G} {cI cZ : ClassId} {r : Nat → Nat} {th : Int32} {tc nc ac : Nat} {ch : Int32} {U : Nat → Int32} {Z : Nat → Bool} {B L F : Nat → Int32} {H : Heap} (hP : va_P D vwCl (wM cI cZ r th tc nc ac ch U Z B L F) H) (htc : tc ≤ 8) (hnc : nc ≤ 40) (hac : ac ≤ 8) (hD0 : va_D (fun _ => True) (wM cI cZ r th tc nc ac ch U Z B L F)) {t : Nat} (ht : t < tc) : Met l yX1_setsWith wsX1_setsWith ({ frames := 3, cells := 0, slots := 0, locals := 68 }) (va_Pc [.ref (r 0), .int (nI t)] (rd D vwCl (tyA cI cZ) H)) (va_Qi (fun r (_ : Unit) => r = nI (ct (fun k => hs (nI k) (nI t) && zz U Z nc k) (pw tc))) (fun _ t8 => va_P D vwCl (wM cI cZ r 0 tc nc ac ch U Z B L F) t8.heap) (va_A (wM cI cZ r th tc nc ac ch U Z B L F) H.size)) 0 0 (va_A (wM cI cZ r th tc nc ac ch U Z B L F) H.size) := by
  refine Met.ofW (cc := cX1_setsWith) (maxL := 2) (ret := (some .int)) (by decide) rfl ?_
  intro p e s m args below meth c s₁ B9 hml hv
  obtain ⟨rfl, hH, hK⟩ := hv
  subst hH
  have hx := B9.exec
  have hb := B9.bytes
  have hr := B9.returns
  have hts := atoms_spec (ws := wsX1_setsWith) B9.pre
  have hown : s.vm.findClass RX1 = some m.cls := findClass_of_methodNamed B9.named
  have hlocks := B9.notSynchronized
  have hin : ∀ w ∈ u_ws RX1 TX1 10, w ∈ wsX1_setsWith := fun w h => List.mem_cons_of_mem _ (List.mem_append_right _ h)
  have hD0 := hD0.self (sz := s.heap.size)
  generalize hAe : va_A (wM cI cZ r th tc nc ac ch U Z B L F) s.heap.size = A at hD0 ⊢
  have hA : ∀ q : Nat, s.heap.size ≤ q → A q := fun q h => by rw [← hAe]; exact Or.inr h
  have hS : va_S A s.heap s.heap [] := va_S.rf
  have hD := hD0
  have hl := lv_entry ([.ref (r 0), .int (nI t)]) (n := 2) (Nat.le_of_ble_eq_true rfl)
  rw [lg_entry_eq]
  generalize (lg_sl ([.ref (r 0), .int (nI t)]) ++ List.replicate (2 - (lg_sl ([.ref (r 0), .int (nI t)])).length) Slot.unset).toArray = ls at hl ⊢
  have hl : lv_has ls 2 [(0, .ref (r 0)), (1, .int (nI t))] := hl
  refine lv_aload_n hx hb dX1_setsWith_0 rfl (lv_at hl 0 rfl) ?_
  refine lv_iconst (v := 0) hx hb dX1_setsWith_1 (by decide) ?_
  refine va_put (D := D) (ci := 1) (v := .int 0) (ty := .int) (C := RX1) (T := TX1) (N := 10) hx hb hts hin tyX1 tyX1_ok nmX1 hown hK hP hD hS 0 rfl rfl 0 (by decide) (hts (.fieldLink RX1 26 "SmudgedStarModel" "thrown" "I") (List.mem_of_getElem? (i := 1) rfl)) (fun _ h9 => h9) rfl (by decide +kernel) rfl rfl (Nat.le_of_ble_eq_true rfl) dX1_setsWith_2 (fun H locs hP hD hS => ?_)
  have hP : va_P D vwCl (wM cI cZ r 0 tc nc ac ch U Z B L F) H := hP
  have hD : va_D A (wM cI cZ r 0 tc nc ac ch U Z B L F) := va_D_re hD rfl
  refine lv_aload_n hx hb dX1_setsWith_5 rfl (lv_at hl 0 rfl) ?_
  refine lv_iload_n hx hb dX1_setsWith_6 rfl (lv_at hl 1 rfl) ?_
  refine pcV_i (As := [.int (nI t)]) (rest := []) ⟨hx, hb, hml, hown, hts⟩ (g_M_isThing l hP htc hnc hac (v := nI t)) (cwV 1 hts gX1_setsWith_X1_isThing rfl rfl rfl hdX1_isThing ⟨Nat.le_of_ble_eq_true rfl, Nat.le_of_ble_eq_true rfl⟩) (va_recv hK hP (ci := 1) (q0 := 0) rfl rfl) hK rfl hl.1 (Nat.le_of_ble_eq_true rfl) rfl dX1_setsWith_7 ⟨Nat.le_of_ble_eq_true rfl, Nat.le_of_ble_eq_true rfl⟩ ?_
  refine lv_ifb_eq (tgt := 21) hx hb dX1_setsWith_10 (by decide) (fun c10 => absurd (c10.symm.trans (rg_in ht (by omega))) (by decide)) (fun c10 => ?_)
  refine lv_aload_n hx hb dX1_setsWith_13 rfl (lv_at hl 0 rfl) ?_
  refine lv_iload_n hx hb dX1_setsWith_14 rfl (lv_at hl 1 rfl) ?_
  refine pcV_i (As := [.int (nI t)]) (rest := []) ⟨hx, hb, hml, hown, hts⟩ (g_M_withThing l hP htc hnc hac (t := t)) (cwV 1 hts gX1_setsWith_X1_withThing rfl rfl rfl hdX1_withThing ⟨Nat.le_of_ble_eq_true rfl, Nat.le_of_ble_eq_true rfl⟩) (va_recv hK hP (ci := 1) (q0 := 0) rfl rfl) hK rfl hl.1 (Nat.le_of_ble_eq_true rfl) rfl dX1_setsWith_15 ⟨Nat.le_of_ble_eq_true rfl, Nat.le_of_ble_eq_true rfl⟩ ?_
  refine lv_goto (tgt := 26) hx hb dX1_setsWith_18 (by decide) ?_
  have hPe : va_P D vwCl (wM cI cZ r 0 tc nc ac ch U Z B L F) H := hP
  exact W.iret (v := nI (ct (fun k => hs (nI k) (nI t) && zz U Z nc k) (pw tc))) hx hb hr (fun t9 ht9 hW9 => ⟨⟨nI (ct (fun k => hs (nI k) (nI t) && zz U Z nc k) (pw tc)), (), rfl, rfl, by show va_P D vwCl _ t9.heap; rw [ht9]; exact hPe⟩, hS.F ht9⟩) hS.2.2 dX1_setsWith_26
set_option maxHeartbeats 4000000 in
set_option maxRecDepth 100000 in
theorem wb_M_setsWith (l : Launch) {D : va_G} {cI cZ : ClassId} {r : Nat → Nat} {th : Int32} {tc nc ac : Nat} {ch : Int32} {U : Nat → Int32} {Z : Nat → Bool} {B L F : Nat → Int32} {H : Heap} (hP : va_P D vwCl (wM cI cZ r th tc nc ac ch U Z B L F) H) (htc : tc ≤ 8) (hnc : nc ≤ 40) (hac : ac ≤ 8) (hD0 : va_D (fun _ => True) (wM cI cZ r th tc nc ac ch U Z B L F)) {v : Int32} (hv : v < 0 ∨ nI tc ≤ v) : Met l yX1_setsWith wsX1_setsWith ({ frames := 3, cells := 0, slots := 0, locals := 68 }) (va_Pc [.ref (r 0), .int v] (rd D vwCl (tyA cI cZ) H)) (va_Qi (fun r (_ : Unit) => r = 0) (fun _ t8 => va_P D vwCl (wM cI cZ r 1 tc nc ac ch U Z B L F) t8.heap) (va_A (wM cI cZ r th tc nc ac ch U Z B L F) H.size)) 0 0 (va_A (wM cI cZ r th tc nc ac ch U Z B L F) H.size) := by
  refine Met.ofW (cc := cX1_setsWith) (maxL := 2) (ret := (some .int)) (by decide) rfl ?_
  intro p e s m args below meth c s₁ B9 hml hv
  obtain ⟨rfl, hH, hK⟩ := hv
  subst hH
  have hx := B9.exec
  have hb := B9.bytes
  have hr := B9.returns
  have hts := atoms_spec (ws := wsX1_setsWith) B9.pre
  have hown : s.vm.findClass RX1 = some m.cls := findClass_of_methodNamed B9.named
  have hlocks := B9.notSynchronized
  have hin : ∀ w ∈ u_ws RX1 TX1 10, w ∈ wsX1_setsWith := fun w h => List.mem_cons_of_mem _ (List.mem_append_right _ h)
  have hD0 := hD0.self (sz := s.heap.size)
  generalize hAe : va_A (wM cI cZ r th tc nc ac ch U Z B L F) s.heap.size = A at hD0 ⊢
  have hA : ∀ q : Nat, s.heap.size ≤ q → A q := fun q h => by rw [← hAe]; exact Or.inr h
  have hS : va_S A s.heap s.heap [] := va_S.rf
  have hD := hD0
  have hl := lv_entry ([.ref (r 0), .int v]) (n := 2) (Nat.le_of_ble_eq_true rfl)
  rw [lg_entry_eq]
  generalize (lg_sl ([.ref (r 0), .int v]) ++ List.replicate (2 - (lg_sl ([.ref (r 0), .int v])).length) Slot.unset).toArray = ls at hl ⊢
  have hl : lv_has ls 2 [(0, .ref (r 0)), (1, .int v)] := hl
  refine lv_aload_n hx hb dX1_setsWith_0 rfl (lv_at hl 0 rfl) ?_
  refine lv_iconst (v := 0) hx hb dX1_setsWith_1 (by decide) ?_
  refine va_put (D := D) (ci := 1) (v := .int 0) (ty := .int) (C := RX1) (T := TX1) (N := 10) hx hb hts hin tyX1 tyX1_ok nmX1 hown hK hP hD hS 0 rfl rfl 0 (by decide) (hts (.fieldLink RX1 26 "SmudgedStarModel" "thrown" "I") (List.mem_of_getElem? (i := 1) rfl)) (fun _ h9 => h9) rfl (by decide +kernel) rfl rfl (Nat.le_of_ble_eq_true rfl) dX1_setsWith_2 (fun H locs hP hD hS => ?_)
  have hP : va_P D vwCl (wM cI cZ r 0 tc nc ac ch U Z B L F) H := hP
  have hD : va_D A (wM cI cZ r 0 tc nc ac ch U Z B L F) := va_D_re hD rfl
  refine lv_aload_n hx hb dX1_setsWith_5 rfl (lv_at hl 0 rfl) ?_
  refine lv_iload_n hx hb dX1_setsWith_6 rfl (lv_at hl 1 rfl) ?_
  refine pcV_i (As := [.int v]) (rest := []) ⟨hx, hb, hml, hown, hts⟩ (g_M_isThing l hP htc hnc hac (v := v)) (cwV 1 hts gX1_setsWith_X1_isThing rfl rfl rfl hdX1_isThing ⟨Nat.le_of_ble_eq_true rfl, Nat.le_of_ble_eq_true rfl⟩) (va_recv hK hP (ci := 1) (q0 := 0) rfl rfl) hK rfl hl.1 (Nat.le_of_ble_eq_true rfl) rfl dX1_setsWith_7 ⟨Nat.le_of_ble_eq_true rfl, Nat.le_of_ble_eq_true rfl⟩ ?_
  refine lv_ifb_eq (tgt := 21) hx hb dX1_setsWith_10 (by decide) (fun c10 => ?_) (fun c10 => absurd (c10.symm.trans (rg_out (n := tc) (by omega) hv)) (by decide))
  refine lv_aload_n hx hb dX1_setsWith_21 rfl (lv_at hl 0 rfl) ?_
  refine lv_iconst (v := 1) hx hb dX1_setsWith_22 (by decide) ?_
  refine wcV_i (As := [.int 1]) (rest := []) ⟨hx, hb, hml, hown, hts⟩ (w_M_no l hP htc hnc hac (hD.weaken (fun _ _ _ _ => trivial)) (v := 1)) (cwV 1 hts gX1_setsWith_X1_no rfl rfl rfl hdX1_no ⟨Nat.le_of_ble_eq_true rfl, Nat.le_of_ble_eq_true rfl⟩) (va_recv hK hP (ci := 1) (q0 := 0) rfl rfl) hK hS (va_free_all hD hS hA) rfl hl.1 (Nat.le_of_ble_eq_true rfl) rfl dX1_setsWith_23 ⟨Nat.le_of_ble_eq_true rfl, Nat.le_of_ble_eq_true rfl⟩ (fun H locs hP hz1 hk1 hS => ?_)
  have hP : va_P D vwCl (wM cI cZ r 1 tc nc ac ch U Z B L F) H := hP
  have hD : va_D A (wM cI cZ r 1 tc nc ac ch U Z B L F) := va_D_re hD rfl
  have hPe : va_P D vwCl (wM cI cZ r 1 tc nc ac ch U Z B L F) H := hP
  exact W.iret (v := 0) hx hb hr (fun t9 ht9 hW9 => ⟨⟨0, (), rfl, rfl, by show va_P D vwCl _ t9.heap; rw [ht9]; exact hPe⟩, hS.F ht9⟩) hS.2.2 dX1_setsWith_26
set_option maxHeartbeats 4000000 in
set_option maxRecDepth 100000 in
theorem w_M_votesFor (l : Launch) {D : va_G} {cI cZ : ClassId} {r : Nat → Nat} {th : Int32} {tc nc ac : Nat} {ch : Int32} {U : Nat → Int32} {Z : Nat → Bool} {B L F : Nat → Int32} {H : Heap} (hP : va_P D vwCl (wM cI cZ r th tc nc ac ch U Z B L F) H) (htc : tc ≤ 8) (hnc : nc ≤ 40) (hac : ac ≤ 8) (hD0 : va_D (fun _ => True) (wM cI cZ r th tc nc ac ch U Z B L F)) {t : Nat} (ht : t < tc) : Met l yX1_votesFor wsX1_votesFor ({ frames := 2, cells := 0, slots := 0, locals := 44 }) (va_Pc [.ref (r 0), .int (nI t)] (rd D vwCl (tyA cI cZ) H)) (va_Qi (fun r (_ : Unit) => r = nI (ct (fun a => hs (B a) (nI t)) ac)) (fun _ t8 => va_P D vwCl (wM cI cZ r 0 tc nc ac ch U Z B L F) t8.heap) (va_A (wM cI cZ r th tc nc ac ch U Z B L F) H.size)) 0 0 (va_A (wM cI cZ r th tc nc ac ch U Z B L F) H.size) := by
  refine Met.ofW (cc := cX1_votesFor) (maxL := 2) (ret := (some .int)) (by decide) rfl ?_
  intro p e s m args below meth c s₁ B9 hml hv
  obtain ⟨rfl, hH, hK⟩ := hv
  subst hH
  have hx := B9.exec
  have hb := B9.bytes
  have hr := B9.returns
  have hts := atoms_spec (ws := wsX1_votesFor) B9.pre
  have hown : s.vm.findClass RX1 = some m.cls := findClass_of_methodNamed B9.named
  have hlocks := B9.notSynchronized
  have hin : ∀ w ∈ u_ws RX1 TX1 10, w ∈ wsX1_votesFor := fun w h => List.mem_cons_of_mem _ (List.mem_append_right _ h)
  have hD0 := hD0.self (sz := s.heap.size)
  generalize hAe : va_A (wM cI cZ r th tc nc ac ch U Z B L F) s.heap.size = A at hD0 ⊢
  have hA : ∀ q : Nat, s.heap.size ≤ q → A q := fun q h => by rw [← hAe]; exact Or.inr h
  have hS : va_S A s.heap s.heap [] := va_S.rf
  have hD := hD0
  have hl := lv_entry ([.ref (r 0), .int (nI t)]) (n := 2) (Nat.le_of_ble_eq_true rfl)
  rw [lg_entry_eq]
  generalize (lg_sl ([.ref (r 0), .int (nI t)]) ++ List.replicate (2 - (lg_sl ([.ref (r 0), .int (nI t)])).length) Slot.unset).toArray = ls at hl ⊢
  have hl : lv_has ls 2 [(0, .ref (r 0)), (1, .int (nI t))] := hl
  refine lv_aload_n hx hb dX1_votesFor_0 rfl (lv_at hl 0 rfl) ?_
  refine lv_iconst (v := 0) hx hb dX1_votesFor_1 (by decide) ?_
  refine va_put (D := D) (ci := 1) (v := .int 0) (ty := .int) (C := RX1) (T := TX1) (N := 10) hx hb hts hin tyX1 tyX1_ok nmX1 hown hK hP hD hS 0 rfl rfl 0 (by decide) (hts (.fieldLink RX1 26 "SmudgedStarModel" "thrown" "I") (List.mem_of_getElem? (i := 1) rfl)) (fun _ h9 => h9) rfl (by decide +kernel) rfl rfl (Nat.le_of_ble_eq_true rfl) dX1_votesFor_2 (fun H locs hP hD hS => ?_)
  have hP : va_P D vwCl (wM cI cZ r 0 tc nc ac ch U Z B L F) H := hP
  have hD : va_D A (wM cI cZ r 0 tc nc ac ch U Z B L F) := va_D_re hD rfl
  refine lv_aload_n hx hb dX1_votesFor_5 rfl (lv_at hl 0 rfl) ?_
  refine lv_iload_n hx hb dX1_votesFor_6 rfl (lv_at hl 1 rfl) ?_
  refine pcV_i (As := [.int (nI t)]) (rest := []) ⟨hx, hb, hml, hown, hts⟩ (g_M_isThing l hP htc hnc hac (v := nI t)) (cwV 1 hts gX1_votesFor_X1_isThing rfl rfl rfl hdX1_isThing ⟨Nat.le_of_ble_eq_true rfl, Nat.le_of_ble_eq_true rfl⟩) (va_recv hK hP (ci := 1) (q0 := 0) rfl rfl) hK rfl hl.1 (Nat.le_of_ble_eq_true rfl) rfl dX1_votesFor_7 ⟨Nat.le_of_ble_eq_true rfl, Nat.le_of_ble_eq_true rfl⟩ ?_
  refine lv_ifb_eq (tgt := 21) hx hb dX1_votesFor_10 (by decide) (fun c10 => absurd (c10.symm.trans (rg_in ht (by omega))) (by decide)) (fun c10 => ?_)
  refine lv_aload_n hx hb dX1_votesFor_13 rfl (lv_at hl 0 rfl) ?_
  refine lv_iload_n hx hb dX1_votesFor_14 rfl (lv_at hl 1 rfl) ?_
  refine pcV_i (As := [.int (nI t)]) (rest := []) ⟨hx, hb, hml, hown, hts⟩ (g_M_votes l hP htc hnc hac (t := t)) (cwV 1 hts gX1_votesFor_X1_votes rfl rfl rfl hdX1_votes ⟨Nat.le_of_ble_eq_true rfl, Nat.le_of_ble_eq_true rfl⟩) (va_recv hK hP (ci := 1) (q0 := 0) rfl rfl) hK rfl hl.1 (Nat.le_of_ble_eq_true rfl) rfl dX1_votesFor_15 ⟨Nat.le_of_ble_eq_true rfl, Nat.le_of_ble_eq_true rfl⟩ ?_
  refine lv_goto (tgt := 26) hx hb dX1_votesFor_18 (by decide) ?_
  have hPe : va_P D vwCl (wM cI cZ r 0 tc nc ac ch U Z B L F) H := hP
  exact W.iret (v := nI (ct (fun a => hs (B a) (nI t)) ac)) hx hb hr (fun t9 ht9 hW9 => ⟨⟨nI (ct (fun a => hs (B a) (nI t)) ac), (), rfl, rfl, by show va_P D vwCl _ t9.heap; rw [ht9]; exact hPe⟩, hS.F ht9⟩) hS.2.2 dX1_votesFor_26
set_option maxHeartbeats 4000000 in
set_option maxRecDepth 100000 in
theorem wb_M_votesFor (l : Launch) {D : va_G} {cI cZ : ClassId} {r : Nat → Nat} {th : Int32} {tc nc ac : Nat} {ch : Int32} {U : Nat → Int32} {Z : Nat → Bool} {B L F : Nat → Int32} {H : Heap} (hP : va_P D vwCl (wM cI cZ r th tc nc ac ch U Z B L F) H) (htc : tc ≤ 8) (hnc : nc ≤ 40) (hac : ac ≤ 8) (hD0 : va_D (fun _ => True) (wM cI cZ r th tc nc ac ch U Z B L F)) {v : Int32} (hv : v < 0 ∨ nI tc ≤ v) : Met l yX1_votesFor wsX1_votesFor ({ frames := 2, cells := 0, slots := 0, locals := 44 }) (va_Pc [.ref (r 0), .int v] (rd D vwCl (tyA cI cZ) H)) (va_Qi (fun r (_ : Unit) => r = 0) (fun _ t8 => va_P D vwCl (wM cI cZ r 1 tc nc ac ch U Z B L F) t8.heap) (va_A (wM cI cZ r th tc nc ac ch U Z B L F) H.size)) 0 0 (va_A (wM cI cZ r th tc nc ac ch U Z B L F) H.size) := by
  refine Met.ofW (cc := cX1_votesFor) (maxL := 2) (ret := (some .int)) (by decide) rfl ?_
  intro p e s m args below meth c s₁ B9 hml hv
  obtain ⟨rfl, hH, hK⟩ := hv
  subst hH
  have hx := B9.exec
  have hb := B9.bytes
  have hr := B9.returns
  have hts := atoms_spec (ws := wsX1_votesFor) B9.pre
  have hown : s.vm.findClass RX1 = some m.cls := findClass_of_methodNamed B9.named
  have hlocks := B9.notSynchronized
  have hin : ∀ w ∈ u_ws RX1 TX1 10, w ∈ wsX1_votesFor := fun w h => List.mem_cons_of_mem _ (List.mem_append_right _ h)
  have hD0 := hD0.self (sz := s.heap.size)
  generalize hAe : va_A (wM cI cZ r th tc nc ac ch U Z B L F) s.heap.size = A at hD0 ⊢
  have hA : ∀ q : Nat, s.heap.size ≤ q → A q := fun q h => by rw [← hAe]; exact Or.inr h
  have hS : va_S A s.heap s.heap [] := va_S.rf
  have hD := hD0
  have hl := lv_entry ([.ref (r 0), .int v]) (n := 2) (Nat.le_of_ble_eq_true rfl)
  rw [lg_entry_eq]
  generalize (lg_sl ([.ref (r 0), .int v]) ++ List.replicate (2 - (lg_sl ([.ref (r 0), .int v])).length) Slot.unset).toArray = ls at hl ⊢
  have hl : lv_has ls 2 [(0, .ref (r 0)), (1, .int v)] := hl
  refine lv_aload_n hx hb dX1_votesFor_0 rfl (lv_at hl 0 rfl) ?_
  refine lv_iconst (v := 0) hx hb dX1_votesFor_1 (by decide) ?_
  refine va_put (D := D) (ci := 1) (v := .int 0) (ty := .int) (C := RX1) (T := TX1) (N := 10) hx hb hts hin tyX1 tyX1_ok nmX1 hown hK hP hD hS 0 rfl rfl 0 (by decide) (hts (.fieldLink RX1 26 "SmudgedStarModel" "thrown" "I") (List.mem_of_getElem? (i := 1) rfl)) (fun _ h9 => h9) rfl (by decide +kernel) rfl rfl (Nat.le_of_ble_eq_true rfl) dX1_votesFor_2 (fun H locs hP hD hS => ?_)
  have hP : va_P D vwCl (wM cI cZ r 0 tc nc ac ch U Z B L F) H := hP
  have hD : va_D A (wM cI cZ r 0 tc nc ac ch U Z B L F) := va_D_re hD rfl
  refine lv_aload_n hx hb dX1_votesFor_5 rfl (lv_at hl 0 rfl) ?_
  refine lv_iload_n hx hb dX1_votesFor_6 rfl (lv_at hl 1 rfl) ?_
  refine pcV_i (As := [.int v]) (rest := []) ⟨hx, hb, hml, hown, hts⟩ (g_M_isThing l hP htc hnc hac (v := v)) (cwV 1 hts gX1_votesFor_X1_isThing rfl rfl rfl hdX1_isThing ⟨Nat.le_of_ble_eq_true rfl, Nat.le_of_ble_eq_true rfl⟩) (va_recv hK hP (ci := 1) (q0 := 0) rfl rfl) hK rfl hl.1 (Nat.le_of_ble_eq_true rfl) rfl dX1_votesFor_7 ⟨Nat.le_of_ble_eq_true rfl, Nat.le_of_ble_eq_true rfl⟩ ?_
  refine lv_ifb_eq (tgt := 21) hx hb dX1_votesFor_10 (by decide) (fun c10 => ?_) (fun c10 => absurd (c10.symm.trans (rg_out (n := tc) (by omega) hv)) (by decide))
  refine lv_aload_n hx hb dX1_votesFor_21 rfl (lv_at hl 0 rfl) ?_
  refine lv_iconst (v := 1) hx hb dX1_votesFor_22 (by decide) ?_
  refine wcV_i (As := [.int 1]) (rest := []) ⟨hx, hb, hml, hown, hts⟩ (w_M_no l hP htc hnc hac (hD.weaken (fun _ _ _ _ => trivial)) (v := 1)) (cwV 1 hts gX1_votesFor_X1_no rfl rfl rfl hdX1_no ⟨Nat.le_of_ble_eq_true rfl, Nat.le_of_ble_eq_true rfl⟩) (va_recv hK hP (ci := 1) (q0 := 0) rfl rfl) hK hS (va_free_all hD hS hA) rfl hl.1 (Nat.le_of_ble_eq_true rfl) rfl dX1_votesFor_23 ⟨Nat.le_of_ble_eq_true rfl, Nat.le_of_ble_eq_true rfl⟩ (fun H locs hP hz1 hk1 hS => ?_)
  have hP : va_P D vwCl (wM cI cZ r 1 tc nc ac ch U Z B L F) H := hP
  have hD : va_D A (wM cI cZ r 1 tc nc ac ch U Z B L F) := va_D_re hD rfl
  have hPe : va_P D vwCl (wM cI cZ r 1 tc nc ac ch U Z B L F) H := hP
  exact W.iret (v := 0) hx hb hr (fun t9 ht9 hW9 => ⟨⟨0, (), rfl, rfl, by show va_P D vwCl _ t9.heap; rw [ht9]; exact hPe⟩, hS.F ht9⟩) hS.2.2 dX1_votesFor_26
set_option maxHeartbeats 4000000 in
set_option maxRecDepth 100000 in
theorem w_M_usedIn (l : Launch) {D : va_G} {cI cZ : ClassId} {r : Nat → Nat} {th : Int32} {tc nc ac : Nat} {ch : Int32} {U : Nat → Int32} {Z : Nat → Bool} {B L F : Nat → Int32} {H : Heap} (hP : va_P D vwCl (wM cI cZ r th tc nc ac ch U Z B L F) H) (htc : tc ≤ 8) (hnc : nc ≤ 40) (hac : ac ≤ 8) (hD0 : va_D (fun _ => True) (wM cI cZ r th tc nc ac ch U Z B L F)) {t : Nat} (ht : t < nc) : Met l yX1_usedIn wsX1_usedIn ({ frames := 2, cells := 0, slots := 0, locals := 43 }) (va_Pc [.ref (r 0), .int (nI t)] (rd D vwCl (tyA cI cZ) H)) (va_Qi (fun r (_ : Unit) => r = U t) (fun _ t8 => va_P D vwCl (wM cI cZ r 0 tc nc ac ch U Z B L F) t8.heap) (va_A (wM cI cZ r th tc nc ac ch U Z B L F) H.size)) 0 0 (va_A (wM cI cZ r th tc nc ac ch U Z B L F) H.size) := by
  refine Met.ofW (cc := cX1_usedIn) (maxL := 2) (ret := (some .int)) (by decide) rfl ?_
  intro p e s m args below meth c s₁ B9 hml hv
  obtain ⟨rfl, hH, hK⟩ := hv
  subst hH
  have hx := B9.exec
  have hb := B9.bytes
  have hr := B9.returns
  have hts := atoms_spec (ws := wsX1_usedIn) B9.pre
  have hown : s.vm.findClass RX1 = some m.cls := findClass_of_methodNamed B9.named
  have hlocks := B9.notSynchronized
  have hin : ∀ w ∈ u_ws RX1 TX1 10, w ∈ wsX1_usedIn := fun w h => List.mem_cons_of_mem _ (List.mem_append_right _ h)
  have hD0 := hD0.self (sz := s.heap.size)
  generalize hAe : va_A (wM cI cZ r th tc nc ac ch U Z B L F) s.heap.size = A at hD0 ⊢
  have hA : ∀ q : Nat, s.heap.size ≤ q → A q := fun q h => by rw [← hAe]; exact Or.inr h
  have hS : va_S A s.heap s.heap [] := va_S.rf
  have hD := hD0
  have hl := lv_entry ([.ref (r 0), .int (nI t)]) (n := 2) (Nat.le_of_ble_eq_true rfl)
  rw [lg_entry_eq]
  generalize (lg_sl ([.ref (r 0), .int (nI t)]) ++ List.replicate (2 - (lg_sl ([.ref (r 0), .int (nI t)])).length) Slot.unset).toArray = ls at hl ⊢
  have hl : lv_has ls 2 [(0, .ref (r 0)), (1, .int (nI t))] := hl
  refine lv_aload_n hx hb dX1_usedIn_0 rfl (lv_at hl 0 rfl) ?_
  refine lv_iconst (v := 0) hx hb dX1_usedIn_1 (by decide) ?_
  refine va_put (D := D) (ci := 1) (v := .int 0) (ty := .int) (C := RX1) (T := TX1) (N := 10) hx hb hts hin tyX1 tyX1_ok nmX1 hown hK hP hD hS 0 rfl rfl 0 (by decide) (hts (.fieldLink RX1 26 "SmudgedStarModel" "thrown" "I") (List.mem_of_getElem? (i := 1) rfl)) (fun _ h9 => h9) rfl (by decide +kernel) rfl rfl (Nat.le_of_ble_eq_true rfl) dX1_usedIn_2 (fun H locs hP hD hS => ?_)
  have hP : va_P D vwCl (wM cI cZ r 0 tc nc ac ch U Z B L F) H := hP
  have hD : va_D A (wM cI cZ r 0 tc nc ac ch U Z B L F) := va_D_re hD rfl
  refine lv_aload_n hx hb dX1_usedIn_5 rfl (lv_at hl 0 rfl) ?_
  refine lv_iload_n hx hb dX1_usedIn_6 rfl (lv_at hl 1 rfl) ?_
  refine pcV_i (As := [.int (nI t)]) (rest := []) ⟨hx, hb, hml, hown, hts⟩ (g_M_isNight l hP htc hnc hac (v := nI t)) (cwV 1 hts gX1_usedIn_X1_isNight rfl rfl rfl hdX1_isNight ⟨Nat.le_of_ble_eq_true rfl, Nat.le_of_ble_eq_true rfl⟩) (va_recv hK hP (ci := 1) (q0 := 0) rfl rfl) hK rfl hl.1 (Nat.le_of_ble_eq_true rfl) rfl dX1_usedIn_7 ⟨Nat.le_of_ble_eq_true rfl, Nat.le_of_ble_eq_true rfl⟩ ?_
  refine lv_ifb_eq (tgt := 22) hx hb dX1_usedIn_10 (by decide) (fun c10 => absurd (c10.symm.trans (rg_in ht (by omega))) (by decide)) (fun c10 => ?_)
  refine lv_aload_n hx hb dX1_usedIn_13 rfl (lv_at hl 0 rfl) ?_
  refine va_get (D := D) (ci := 1) (v := .ref (r 1)) (C := RX1) (T := TX1) (N := 10) hx hb hts hin hown hK hP 0 rfl rfl 3 (by decide) (hts (.fieldLink RX1 9 "SmudgedStarModel" "used" "[I") (List.mem_of_getElem? (i := 2) rfl)) (fun _ h9 => h9) rfl dX1_usedIn_14 ?_
  refine lv_iload_n hx hb dX1_usedIn_17 rfl (lv_at hl 1 rfl) ?_
  refine ia_ld hx hb hK hP 1 0 rfl rfl (j := t) (by omega) (by decide) dX1_usedIn_18 ?_
  refine lv_goto (tgt := 27) hx hb dX1_usedIn_19 (by decide) ?_
  have hPe : va_P D vwCl (wM cI cZ r 0 tc nc ac ch U Z B L F) H := hP
  exact W.iret (v := U t) hx hb hr (fun t9 ht9 hW9 => ⟨⟨U t, (), rfl, rfl, by show va_P D vwCl _ t9.heap; rw [ht9]; exact hPe⟩, hS.F ht9⟩) hS.2.2 dX1_usedIn_27
set_option maxHeartbeats 4000000 in
set_option maxRecDepth 100000 in
theorem wb_M_usedIn (l : Launch) {D : va_G} {cI cZ : ClassId} {r : Nat → Nat} {th : Int32} {tc nc ac : Nat} {ch : Int32} {U : Nat → Int32} {Z : Nat → Bool} {B L F : Nat → Int32} {H : Heap} (hP : va_P D vwCl (wM cI cZ r th tc nc ac ch U Z B L F) H) (htc : tc ≤ 8) (hnc : nc ≤ 40) (hac : ac ≤ 8) (hD0 : va_D (fun _ => True) (wM cI cZ r th tc nc ac ch U Z B L F)) {v : Int32} (hv : v < 0 ∨ nI nc ≤ v) : Met l yX1_usedIn wsX1_usedIn ({ frames := 2, cells := 0, slots := 0, locals := 43 }) (va_Pc [.ref (r 0), .int v] (rd D vwCl (tyA cI cZ) H)) (va_Qi (fun r (_ : Unit) => r = 0) (fun _ t8 => va_P D vwCl (wM cI cZ r 1 tc nc ac ch U Z B L F) t8.heap) (va_A (wM cI cZ r th tc nc ac ch U Z B L F) H.size)) 0 0 (va_A (wM cI cZ r th tc nc ac ch U Z B L F) H.size) := by
  refine Met.ofW (cc := cX1_usedIn) (maxL := 2) (ret := (some .int)) (by decide) rfl ?_
  intro p e s m args below meth c s₁ B9 hml hv
  obtain ⟨rfl, hH, hK⟩ := hv
  subst hH
  have hx := B9.exec
  have hb := B9.bytes
  have hr := B9.returns
  have hts := atoms_spec (ws := wsX1_usedIn) B9.pre
  have hown : s.vm.findClass RX1 = some m.cls := findClass_of_methodNamed B9.named
  have hlocks := B9.notSynchronized
  have hin : ∀ w ∈ u_ws RX1 TX1 10, w ∈ wsX1_usedIn := fun w h => List.mem_cons_of_mem _ (List.mem_append_right _ h)
  have hD0 := hD0.self (sz := s.heap.size)
  generalize hAe : va_A (wM cI cZ r th tc nc ac ch U Z B L F) s.heap.size = A at hD0 ⊢
  have hA : ∀ q : Nat, s.heap.size ≤ q → A q := fun q h => by rw [← hAe]; exact Or.inr h
  have hS : va_S A s.heap s.heap [] := va_S.rf
  have hD := hD0
  have hl := lv_entry ([.ref (r 0), .int v]) (n := 2) (Nat.le_of_ble_eq_true rfl)
  rw [lg_entry_eq]
  generalize (lg_sl ([.ref (r 0), .int v]) ++ List.replicate (2 - (lg_sl ([.ref (r 0), .int v])).length) Slot.unset).toArray = ls at hl ⊢
  have hl : lv_has ls 2 [(0, .ref (r 0)), (1, .int v)] := hl
  refine lv_aload_n hx hb dX1_usedIn_0 rfl (lv_at hl 0 rfl) ?_
  refine lv_iconst (v := 0) hx hb dX1_usedIn_1 (by decide) ?_
  refine va_put (D := D) (ci := 1) (v := .int 0) (ty := .int) (C := RX1) (T := TX1) (N := 10) hx hb hts hin tyX1 tyX1_ok nmX1 hown hK hP hD hS 0 rfl rfl 0 (by decide) (hts (.fieldLink RX1 26 "SmudgedStarModel" "thrown" "I") (List.mem_of_getElem? (i := 1) rfl)) (fun _ h9 => h9) rfl (by decide +kernel) rfl rfl (Nat.le_of_ble_eq_true rfl) dX1_usedIn_2 (fun H locs hP hD hS => ?_)
  have hP : va_P D vwCl (wM cI cZ r 0 tc nc ac ch U Z B L F) H := hP
  have hD : va_D A (wM cI cZ r 0 tc nc ac ch U Z B L F) := va_D_re hD rfl
  refine lv_aload_n hx hb dX1_usedIn_5 rfl (lv_at hl 0 rfl) ?_
  refine lv_iload_n hx hb dX1_usedIn_6 rfl (lv_at hl 1 rfl) ?_
  refine pcV_i (As := [.int v]) (rest := []) ⟨hx, hb, hml, hown, hts⟩ (g_M_isNight l hP htc hnc hac (v := v)) (cwV 1 hts gX1_usedIn_X1_isNight rfl rfl rfl hdX1_isNight ⟨Nat.le_of_ble_eq_true rfl, Nat.le_of_ble_eq_true rfl⟩) (va_recv hK hP (ci := 1) (q0 := 0) rfl rfl) hK rfl hl.1 (Nat.le_of_ble_eq_true rfl) rfl dX1_usedIn_7 ⟨Nat.le_of_ble_eq_true rfl, Nat.le_of_ble_eq_true rfl⟩ ?_
  refine lv_ifb_eq (tgt := 22) hx hb dX1_usedIn_10 (by decide) (fun c10 => ?_) (fun c10 => absurd (c10.symm.trans (rg_out (n := nc) (by omega) hv)) (by decide))
  refine lv_aload_n hx hb dX1_usedIn_22 rfl (lv_at hl 0 rfl) ?_
  refine lv_iconst (v := 1) hx hb dX1_usedIn_23 (by decide) ?_
  refine wcV_i (As := [.int 1]) (rest := []) ⟨hx, hb, hml, hown, hts⟩ (w_M_no l hP htc hnc hac (hD.weaken (fun _ _ _ _ => trivial)) (v := 1)) (cwV 1 hts gX1_usedIn_X1_no rfl rfl rfl hdX1_no ⟨Nat.le_of_ble_eq_true rfl, Nat.le_of_ble_eq_true rfl⟩) (va_recv hK hP (ci := 1) (q0 := 0) rfl rfl) hK hS (va_free_all hD hS hA) rfl hl.1 (Nat.le_of_ble_eq_true rfl) rfl dX1_usedIn_24 ⟨Nat.le_of_ble_eq_true rfl, Nat.le_of_ble_eq_true rfl⟩ (fun H locs hP hz1 hk1 hS => ?_)
  have hP : va_P D vwCl (wM cI cZ r 1 tc nc ac ch U Z B L F) H := hP
  have hD : va_D A (wM cI cZ r 1 tc nc ac ch U Z B L F) := va_D_re hD rfl
  have hPe : va_P D vwCl (wM cI cZ r 1 tc nc ac ch U Z B L F) H := hP
  exact W.iret (v := 0) hx hb hr (fun t9 ht9 hW9 => ⟨⟨0, (), rfl, rfl, by show va_P D vwCl _ t9.heap; rw [ht9]; exact hPe⟩, hS.F ht9⟩) hS.2.2 dX1_usedIn_27
set_option maxHeartbeats 4000000 in
set_option maxRecDepth 100000 in
theorem w_M_isSmudged (l : Launch) {D : va_G} {cI cZ : ClassId} {r : Nat → Nat} {th : Int32} {tc nc ac : Nat} {ch : Int32} {U : Nat → Int32} {Z : Nat → Bool} {B L F : Nat → Int32} {H : Heap} (hP : va_P D vwCl (wM cI cZ r th tc nc ac ch U Z B L F) H) (htc : tc ≤ 8) (hnc : nc ≤ 40) (hac : ac ≤ 8) (hD0 : va_D (fun _ => True) (wM cI cZ r th tc nc ac ch U Z B L F)) {t : Nat} (ht : t < nc) : Met l yX1_isSmudged wsX1_isSmudged ({ frames := 2, cells := 0, slots := 0, locals := 43 }) (va_Pc [.ref (r 0), .int (nI t)] (rd D vwCl (tyA cI cZ) H)) (va_Qi (fun r (_ : Unit) => r = bI (Z t)) (fun _ t8 => va_P D vwCl (wM cI cZ r 0 tc nc ac ch U Z B L F) t8.heap) (va_A (wM cI cZ r th tc nc ac ch U Z B L F) H.size)) 0 0 (va_A (wM cI cZ r th tc nc ac ch U Z B L F) H.size) := by
  refine Met.ofW (cc := cX1_isSmudged) (maxL := 2) (ret := (some .boolean)) (by decide) rfl ?_
  intro p e s m args below meth c s₁ B9 hml hv
  obtain ⟨rfl, hH, hK⟩ := hv
  subst hH
  have hx := B9.exec
  have hb := B9.bytes
  have hr := B9.returns
  have hts := atoms_spec (ws := wsX1_isSmudged) B9.pre
  have hown : s.vm.findClass RX1 = some m.cls := findClass_of_methodNamed B9.named
  have hlocks := B9.notSynchronized
  have hin : ∀ w ∈ u_ws RX1 TX1 10, w ∈ wsX1_isSmudged := fun w h => List.mem_cons_of_mem _ (List.mem_append_right _ h)
  have hD0 := hD0.self (sz := s.heap.size)
  generalize hAe : va_A (wM cI cZ r th tc nc ac ch U Z B L F) s.heap.size = A at hD0 ⊢
  have hA : ∀ q : Nat, s.heap.size ≤ q → A q := fun q h => by rw [← hAe]; exact Or.inr h
  have hS : va_S A s.heap s.heap [] := va_S.rf
  have hD := hD0
  have hl := lv_entry ([.ref (r 0), .int (nI t)]) (n := 2) (Nat.le_of_ble_eq_true rfl)
  rw [lg_entry_eq]
  generalize (lg_sl ([.ref (r 0), .int (nI t)]) ++ List.replicate (2 - (lg_sl ([.ref (r 0), .int (nI t)])).length) Slot.unset).toArray = ls at hl ⊢
  have hl : lv_has ls 2 [(0, .ref (r 0)), (1, .int (nI t))] := hl
  refine lv_aload_n hx hb dX1_isSmudged_0 rfl (lv_at hl 0 rfl) ?_
  refine lv_iconst (v := 0) hx hb dX1_isSmudged_1 (by decide) ?_
  refine va_put (D := D) (ci := 1) (v := .int 0) (ty := .int) (C := RX1) (T := TX1) (N := 10) hx hb hts hin tyX1 tyX1_ok nmX1 hown hK hP hD hS 0 rfl rfl 0 (by decide) (hts (.fieldLink RX1 26 "SmudgedStarModel" "thrown" "I") (List.mem_of_getElem? (i := 1) rfl)) (fun _ h9 => h9) rfl (by decide +kernel) rfl rfl (Nat.le_of_ble_eq_true rfl) dX1_isSmudged_2 (fun H locs hP hD hS => ?_)
  have hP : va_P D vwCl (wM cI cZ r 0 tc nc ac ch U Z B L F) H := hP
  have hD : va_D A (wM cI cZ r 0 tc nc ac ch U Z B L F) := va_D_re hD rfl
  refine lv_aload_n hx hb dX1_isSmudged_5 rfl (lv_at hl 0 rfl) ?_
  refine lv_iload_n hx hb dX1_isSmudged_6 rfl (lv_at hl 1 rfl) ?_
  refine pcV_i (As := [.int (nI t)]) (rest := []) ⟨hx, hb, hml, hown, hts⟩ (g_M_isNight l hP htc hnc hac (v := nI t)) (cwV 1 hts gX1_isSmudged_X1_isNight rfl rfl rfl hdX1_isNight ⟨Nat.le_of_ble_eq_true rfl, Nat.le_of_ble_eq_true rfl⟩) (va_recv hK hP (ci := 1) (q0 := 0) rfl rfl) hK rfl hl.1 (Nat.le_of_ble_eq_true rfl) rfl dX1_isSmudged_7 ⟨Nat.le_of_ble_eq_true rfl, Nat.le_of_ble_eq_true rfl⟩ ?_
  refine lv_ifb_eq (tgt := 22) hx hb dX1_isSmudged_10 (by decide) (fun c10 => absurd (c10.symm.trans (rg_in ht (by omega))) (by decide)) (fun c10 => ?_)
  refine lv_aload_n hx hb dX1_isSmudged_13 rfl (lv_at hl 0 rfl) ?_
  refine va_get (D := D) (ci := 1) (v := .ref (r 2)) (C := RX1) (T := TX1) (N := 10) hx hb hts hin hown hK hP 0 rfl rfl 4 (by decide) (hts (.fieldLink RX1 13 "SmudgedStarModel" "smudged" "[Z") (List.mem_of_getElem? (i := 2) rfl)) (fun _ h9 => h9) rfl dX1_isSmudged_14 ?_
  refine lv_iload_n hx hb dX1_isSmudged_17 rfl (lv_at hl 1 rfl) ?_
  refine za_ld (f := Z) hx hb hK hP 2 1 rfl rfl (j := t) (by omega) (by decide) dX1_isSmudged_18 ?_
  refine lv_goto (tgt := 27) hx hb dX1_isSmudged_19 (by decide) ?_
  have hPe : va_P D vwCl (wM cI cZ r 0 tc nc ac ch U Z B L F) H := hP
  exact W.zret (v := bI (Z t)) (ty := .boolean) hx hb hr (bI_nar _) (fun t9 ht9 hW9 => ⟨⟨bI (Z t), (), rfl, rfl, by show va_P D vwCl _ t9.heap; rw [ht9]; exact hPe⟩, hS.F ht9⟩) hS.2.2 dX1_isSmudged_27
set_option maxHeartbeats 4000000 in
set_option maxRecDepth 100000 in
theorem wb_M_isSmudged (l : Launch) {D : va_G} {cI cZ : ClassId} {r : Nat → Nat} {th : Int32} {tc nc ac : Nat} {ch : Int32} {U : Nat → Int32} {Z : Nat → Bool} {B L F : Nat → Int32} {H : Heap} (hP : va_P D vwCl (wM cI cZ r th tc nc ac ch U Z B L F) H) (htc : tc ≤ 8) (hnc : nc ≤ 40) (hac : ac ≤ 8) (hD0 : va_D (fun _ => True) (wM cI cZ r th tc nc ac ch U Z B L F)) {v : Int32} (hv : v < 0 ∨ nI nc ≤ v) : Met l yX1_isSmudged wsX1_isSmudged ({ frames := 2, cells := 0, slots := 0, locals := 43 }) (va_Pc [.ref (r 0), .int v] (rd D vwCl (tyA cI cZ) H)) (va_Qi (fun r (_ : Unit) => r = 0) (fun _ t8 => va_P D vwCl (wM cI cZ r 1 tc nc ac ch U Z B L F) t8.heap) (va_A (wM cI cZ r th tc nc ac ch U Z B L F) H.size)) 0 0 (va_A (wM cI cZ r th tc nc ac ch U Z B L F) H.size) := by
  refine Met.ofW (cc := cX1_isSmudged) (maxL := 2) (ret := (some .boolean)) (by decide) rfl ?_
  intro p e s m args below meth c s₁ B9 hml hv
  obtain ⟨rfl, hH, hK⟩ := hv
  subst hH
  have hx := B9.exec
  have hb := B9.bytes
  have hr := B9.returns
  have hts := atoms_spec (ws := wsX1_isSmudged) B9.pre
  have hown : s.vm.findClass RX1 = some m.cls := findClass_of_methodNamed B9.named
  have hlocks := B9.notSynchronized
  have hin : ∀ w ∈ u_ws RX1 TX1 10, w ∈ wsX1_isSmudged := fun w h => List.mem_cons_of_mem _ (List.mem_append_right _ h)
  have hD0 := hD0.self (sz := s.heap.size)
  generalize hAe : va_A (wM cI cZ r th tc nc ac ch U Z B L F) s.heap.size = A at hD0 ⊢
  have hA : ∀ q : Nat, s.heap.size ≤ q → A q := fun q h => by rw [← hAe]; exact Or.inr h
  have hS : va_S A s.heap s.heap [] := va_S.rf
  have hD := hD0
  have hl := lv_entry ([.ref (r 0), .int v]) (n := 2) (Nat.le_of_ble_eq_true rfl)
  rw [lg_entry_eq]
  generalize (lg_sl ([.ref (r 0), .int v]) ++ List.replicate (2 - (lg_sl ([.ref (r 0), .int v])).length) Slot.unset).toArray = ls at hl ⊢
  have hl : lv_has ls 2 [(0, .ref (r 0)), (1, .int v)] := hl
  refine lv_aload_n hx hb dX1_isSmudged_0 rfl (lv_at hl 0 rfl) ?_
  refine lv_iconst (v := 0) hx hb dX1_isSmudged_1 (by decide) ?_
  refine va_put (D := D) (ci := 1) (v := .int 0) (ty := .int) (C := RX1) (T := TX1) (N := 10) hx hb hts hin tyX1 tyX1_ok nmX1 hown hK hP hD hS 0 rfl rfl 0 (by decide) (hts (.fieldLink RX1 26 "SmudgedStarModel" "thrown" "I") (List.mem_of_getElem? (i := 1) rfl)) (fun _ h9 => h9) rfl (by decide +kernel) rfl rfl (Nat.le_of_ble_eq_true rfl) dX1_isSmudged_2 (fun H locs hP hD hS => ?_)
  have hP : va_P D vwCl (wM cI cZ r 0 tc nc ac ch U Z B L F) H := hP
  have hD : va_D A (wM cI cZ r 0 tc nc ac ch U Z B L F) := va_D_re hD rfl
  refine lv_aload_n hx hb dX1_isSmudged_5 rfl (lv_at hl 0 rfl) ?_
  refine lv_iload_n hx hb dX1_isSmudged_6 rfl (lv_at hl 1 rfl) ?_
  refine pcV_i (As := [.int v]) (rest := []) ⟨hx, hb, hml, hown, hts⟩ (g_M_isNight l hP htc hnc hac (v := v)) (cwV 1 hts gX1_isSmudged_X1_isNight rfl rfl rfl hdX1_isNight ⟨Nat.le_of_ble_eq_true rfl, Nat.le_of_ble_eq_true rfl⟩) (va_recv hK hP (ci := 1) (q0 := 0) rfl rfl) hK rfl hl.1 (Nat.le_of_ble_eq_true rfl) rfl dX1_isSmudged_7 ⟨Nat.le_of_ble_eq_true rfl, Nat.le_of_ble_eq_true rfl⟩ ?_
  refine lv_ifb_eq (tgt := 22) hx hb dX1_isSmudged_10 (by decide) (fun c10 => ?_) (fun c10 => absurd (c10.symm.trans (rg_out (n := nc) (by omega) hv)) (by decide))
  refine lv_aload_n hx hb dX1_isSmudged_22 rfl (lv_at hl 0 rfl) ?_
  refine lv_iconst (v := 1) hx hb dX1_isSmudged_23 (by decide) ?_
  refine wcV_i (As := [.int 1]) (rest := []) ⟨hx, hb, hml, hown, hts⟩ (w_M_isNot l hP htc hnc hac (hD.weaken (fun _ _ _ _ => trivial)) (v := 1)) (cwV 1 hts gX1_isSmudged_X1_isNot rfl rfl rfl hdX1_isNot ⟨Nat.le_of_ble_eq_true rfl, Nat.le_of_ble_eq_true rfl⟩) (va_recv hK hP (ci := 1) (q0 := 0) rfl rfl) hK hS (va_free_all hD hS hA) rfl hl.1 (Nat.le_of_ble_eq_true rfl) rfl dX1_isSmudged_24 ⟨Nat.le_of_ble_eq_true rfl, Nat.le_of_ble_eq_true rfl⟩ (fun H locs hP hz1 hk1 hS => ?_)
  have hP : va_P D vwCl (wM cI cZ r 1 tc nc ac ch U Z B L F) H := hP
  have hD : va_D A (wM cI cZ r 1 tc nc ac ch U Z B L F) := va_D_re hD rfl
  have hPe : va_P D vwCl (wM cI cZ r 1 tc nc ac ch U Z B L F) H := hP
  exact W.zret (v := 0) (ty := .boolean) hx hb hr (rfl) (fun t9 ht9 hW9 => ⟨⟨0, (), rfl, rfl, by show va_P D vwCl _ t9.heap; rw [ht9]; exact hPe⟩, hS.F ht9⟩) hS.2.2 dX1_isSmudged_27
set_option maxHeartbeats 4000000 in
set_option maxRecDepth 100000 in
theorem w_M_blamedBy (l : Launch) {D : va_G} {cI cZ : ClassId} {r : Nat → Nat} {th : Int32} {tc nc ac : Nat} {ch : Int32} {U : Nat → Int32} {Z : Nat → Bool} {B L F : Nat → Int32} {H : Heap} (hP : va_P D vwCl (wM cI cZ r th tc nc ac ch U Z B L F) H) (htc : tc ≤ 8) (hnc : nc ≤ 40) (hac : ac ≤ 8) (hD0 : va_D (fun _ => True) (wM cI cZ r th tc nc ac ch U Z B L F)) {t : Nat} (ht : t < ac) : Met l yX1_blamedBy wsX1_blamedBy ({ frames := 2, cells := 0, slots := 0, locals := 43 }) (va_Pc [.ref (r 0), .int (nI t)] (rd D vwCl (tyA cI cZ) H)) (va_Qi (fun r (_ : Unit) => r = B t) (fun _ t8 => va_P D vwCl (wM cI cZ r 0 tc nc ac ch U Z B L F) t8.heap) (va_A (wM cI cZ r th tc nc ac ch U Z B L F) H.size)) 0 0 (va_A (wM cI cZ r th tc nc ac ch U Z B L F) H.size) := by
  refine Met.ofW (cc := cX1_blamedBy) (maxL := 2) (ret := (some .int)) (by decide) rfl ?_
  intro p e s m args below meth c s₁ B9 hml hv
  obtain ⟨rfl, hH, hK⟩ := hv
  subst hH
  have hx := B9.exec
  have hb := B9.bytes
  have hr := B9.returns
  have hts := atoms_spec (ws := wsX1_blamedBy) B9.pre
  have hown : s.vm.findClass RX1 = some m.cls := findClass_of_methodNamed B9.named
  have hlocks := B9.notSynchronized
  have hin : ∀ w ∈ u_ws RX1 TX1 10, w ∈ wsX1_blamedBy := fun w h => List.mem_cons_of_mem _ (List.mem_append_right _ h)
  have hD0 := hD0.self (sz := s.heap.size)
  generalize hAe : va_A (wM cI cZ r th tc nc ac ch U Z B L F) s.heap.size = A at hD0 ⊢
  have hA : ∀ q : Nat, s.heap.size ≤ q → A q := fun q h => by rw [← hAe]; exact Or.inr h
  have hS : va_S A s.heap s.heap [] := va_S.rf
  have hD := hD0
  have hl := lv_entry ([.ref (r 0), .int (nI t)]) (n := 2) (Nat.le_of_ble_eq_true rfl)
  rw [lg_entry_eq]
  generalize (lg_sl ([.ref (r 0), .int (nI t)]) ++ List.replicate (2 - (lg_sl ([.ref (r 0), .int (nI t)])).length) Slot.unset).toArray = ls at hl ⊢
  have hl : lv_has ls 2 [(0, .ref (r 0)), (1, .int (nI t))] := hl
  refine lv_aload_n hx hb dX1_blamedBy_0 rfl (lv_at hl 0 rfl) ?_
  refine lv_iconst (v := 0) hx hb dX1_blamedBy_1 (by decide) ?_
  refine va_put (D := D) (ci := 1) (v := .int 0) (ty := .int) (C := RX1) (T := TX1) (N := 10) hx hb hts hin tyX1 tyX1_ok nmX1 hown hK hP hD hS 0 rfl rfl 0 (by decide) (hts (.fieldLink RX1 26 "SmudgedStarModel" "thrown" "I") (List.mem_of_getElem? (i := 1) rfl)) (fun _ h9 => h9) rfl (by decide +kernel) rfl rfl (Nat.le_of_ble_eq_true rfl) dX1_blamedBy_2 (fun H locs hP hD hS => ?_)
  have hP : va_P D vwCl (wM cI cZ r 0 tc nc ac ch U Z B L F) H := hP
  have hD : va_D A (wM cI cZ r 0 tc nc ac ch U Z B L F) := va_D_re hD rfl
  refine lv_aload_n hx hb dX1_blamedBy_5 rfl (lv_at hl 0 rfl) ?_
  refine lv_iload_n hx hb dX1_blamedBy_6 rfl (lv_at hl 1 rfl) ?_
  refine pcV_i (As := [.int (nI t)]) (rest := []) ⟨hx, hb, hml, hown, hts⟩ (g_M_isAstronomer l hP htc hnc hac (v := nI t)) (cwV 1 hts gX1_blamedBy_X1_isAstronomer rfl rfl rfl hdX1_isAstronomer ⟨Nat.le_of_ble_eq_true rfl, Nat.le_of_ble_eq_true rfl⟩) (va_recv hK hP (ci := 1) (q0 := 0) rfl rfl) hK rfl hl.1 (Nat.le_of_ble_eq_true rfl) rfl dX1_blamedBy_7 ⟨Nat.le_of_ble_eq_true rfl, Nat.le_of_ble_eq_true rfl⟩ ?_
  refine lv_ifb_eq (tgt := 22) hx hb dX1_blamedBy_10 (by decide) (fun c10 => absurd (c10.symm.trans (rg_in ht (by omega))) (by decide)) (fun c10 => ?_)
  refine lv_aload_n hx hb dX1_blamedBy_13 rfl (lv_at hl 0 rfl) ?_
  refine va_get (D := D) (ci := 1) (v := .ref (r 5)) (C := RX1) (T := TX1) (N := 10) hx hb hts hin hown hK hP 0 rfl rfl 8 (by decide) (hts (.fieldLink RX1 23 "SmudgedStarModel" "blames" "[I") (List.mem_of_getElem? (i := 2) rfl)) (fun _ h9 => h9) rfl dX1_blamedBy_14 ?_
  refine lv_iload_n hx hb dX1_blamedBy_17 rfl (lv_at hl 1 rfl) ?_
  refine ia_ld hx hb hK hP 5 0 rfl rfl (j := t) (by omega) (by decide) dX1_blamedBy_18 ?_
  refine lv_goto (tgt := 27) hx hb dX1_blamedBy_19 (by decide) ?_
  have hPe : va_P D vwCl (wM cI cZ r 0 tc nc ac ch U Z B L F) H := hP
  exact W.iret (v := B t) hx hb hr (fun t9 ht9 hW9 => ⟨⟨B t, (), rfl, rfl, by show va_P D vwCl _ t9.heap; rw [ht9]; exact hPe⟩, hS.F ht9⟩) hS.2.2 dX1_blamedBy_27
set_option maxHeartbeats 4000000 in
set_option maxRecDepth 100000 in
theorem wb_M_blamedBy (l : Launch) {D : va_G} {cI cZ : ClassId} {r : Nat → Nat} {th : Int32} {tc nc ac : Nat} {ch : Int32} {U : Nat → Int32} {Z : Nat → Bool} {B L F : Nat → Int32} {H : Heap} (hP : va_P D vwCl (wM cI cZ r th tc nc ac ch U Z B L F) H) (htc : tc ≤ 8) (hnc : nc ≤ 40) (hac : ac ≤ 8) (hD0 : va_D (fun _ => True) (wM cI cZ r th tc nc ac ch U Z B L F)) {v : Int32} (hv : v < 0 ∨ nI ac ≤ v) : Met l yX1_blamedBy wsX1_blamedBy ({ frames := 2, cells := 0, slots := 0, locals := 43 }) (va_Pc [.ref (r 0), .int v] (rd D vwCl (tyA cI cZ) H)) (va_Qi (fun r (_ : Unit) => r = 0) (fun _ t8 => va_P D vwCl (wM cI cZ r 1 tc nc ac ch U Z B L F) t8.heap) (va_A (wM cI cZ r th tc nc ac ch U Z B L F) H.size)) 0 0 (va_A (wM cI cZ r th tc nc ac ch U Z B L F) H.size) := by
  refine Met.ofW (cc := cX1_blamedBy) (maxL := 2) (ret := (some .int)) (by decide) rfl ?_
  intro p e s m args below meth c s₁ B9 hml hv
  obtain ⟨rfl, hH, hK⟩ := hv
  subst hH
  have hx := B9.exec
  have hb := B9.bytes
  have hr := B9.returns
  have hts := atoms_spec (ws := wsX1_blamedBy) B9.pre
  have hown : s.vm.findClass RX1 = some m.cls := findClass_of_methodNamed B9.named
  have hlocks := B9.notSynchronized
  have hin : ∀ w ∈ u_ws RX1 TX1 10, w ∈ wsX1_blamedBy := fun w h => List.mem_cons_of_mem _ (List.mem_append_right _ h)
  have hD0 := hD0.self (sz := s.heap.size)
  generalize hAe : va_A (wM cI cZ r th tc nc ac ch U Z B L F) s.heap.size = A at hD0 ⊢
  have hA : ∀ q : Nat, s.heap.size ≤ q → A q := fun q h => by rw [← hAe]; exact Or.inr h
  have hS : va_S A s.heap s.heap [] := va_S.rf
  have hD := hD0
  have hl := lv_entry ([.ref (r 0), .int v]) (n := 2) (Nat.le_of_ble_eq_true rfl)
  rw [lg_entry_eq]
  generalize (lg_sl ([.ref (r 0), .int v]) ++ List.replicate (2 - (lg_sl ([.ref (r 0), .int v])).length) Slot.unset).toArray = ls at hl ⊢
  have hl : lv_has ls 2 [(0, .ref (r 0)), (1, .int v)] := hl
  refine lv_aload_n hx hb dX1_blamedBy_0 rfl (lv_at hl 0 rfl) ?_
  refine lv_iconst (v := 0) hx hb dX1_blamedBy_1 (by decide) ?_
  refine va_put (D := D) (ci := 1) (v := .int 0) (ty := .int) (C := RX1) (T := TX1) (N := 10) hx hb hts hin tyX1 tyX1_ok nmX1 hown hK hP hD hS 0 rfl rfl 0 (by decide) (hts (.fieldLink RX1 26 "SmudgedStarModel" "thrown" "I") (List.mem_of_getElem? (i := 1) rfl)) (fun _ h9 => h9) rfl (by decide +kernel) rfl rfl (Nat.le_of_ble_eq_true rfl) dX1_blamedBy_2 (fun H locs hP hD hS => ?_)
  have hP : va_P D vwCl (wM cI cZ r 0 tc nc ac ch U Z B L F) H := hP
  have hD : va_D A (wM cI cZ r 0 tc nc ac ch U Z B L F) := va_D_re hD rfl
  refine lv_aload_n hx hb dX1_blamedBy_5 rfl (lv_at hl 0 rfl) ?_
  refine lv_iload_n hx hb dX1_blamedBy_6 rfl (lv_at hl 1 rfl) ?_
  refine pcV_i (As := [.int v]) (rest := []) ⟨hx, hb, hml, hown, hts⟩ (g_M_isAstronomer l hP htc hnc hac (v := v)) (cwV 1 hts gX1_blamedBy_X1_isAstronomer rfl rfl rfl hdX1_isAstronomer ⟨Nat.le_of_ble_eq_true rfl, Nat.le_of_ble_eq_true rfl⟩) (va_recv hK hP (ci := 1) (q0 := 0) rfl rfl) hK rfl hl.1 (Nat.le_of_ble_eq_true rfl) rfl dX1_blamedBy_7 ⟨Nat.le_of_ble_eq_true rfl, Nat.le_of_ble_eq_true rfl⟩ ?_
  refine lv_ifb_eq (tgt := 22) hx hb dX1_blamedBy_10 (by decide) (fun c10 => ?_) (fun c10 => absurd (c10.symm.trans (rg_out (n := ac) (by omega) hv)) (by decide))
  refine lv_aload_n hx hb dX1_blamedBy_22 rfl (lv_at hl 0 rfl) ?_
  refine lv_iconst (v := 1) hx hb dX1_blamedBy_23 (by decide) ?_
  refine wcV_i (As := [.int 1]) (rest := []) ⟨hx, hb, hml, hown, hts⟩ (w_M_no l hP htc hnc hac (hD.weaken (fun _ _ _ _ => trivial)) (v := 1)) (cwV 1 hts gX1_blamedBy_X1_no rfl rfl rfl hdX1_no ⟨Nat.le_of_ble_eq_true rfl, Nat.le_of_ble_eq_true rfl⟩) (va_recv hK hP (ci := 1) (q0 := 0) rfl rfl) hK hS (va_free_all hD hS hA) rfl hl.1 (Nat.le_of_ble_eq_true rfl) rfl dX1_blamedBy_24 ⟨Nat.le_of_ble_eq_true rfl, Nat.le_of_ble_eq_true rfl⟩ (fun H locs hP hz1 hk1 hS => ?_)
  have hP : va_P D vwCl (wM cI cZ r 1 tc nc ac ch U Z B L F) H := hP
  have hD : va_D A (wM cI cZ r 1 tc nc ac ch U Z B L F) := va_D_re hD rfl
  have hPe : va_P D vwCl (wM cI cZ r 1 tc nc ac ch U Z B L F) H := hP
  exact W.iret (v := 0) hx hb hr (fun t9 ht9 hW9 => ⟨⟨0, (), rfl, rfl, by show va_P D vwCl _ t9.heap; rw [ht9]; exact hPe⟩, hS.F ht9⟩) hS.2.2 dX1_blamedBy_27
set_option maxHeartbeats 4000000 in
set_option maxRecDepth 100000 in
theorem w_M_stubbornnessOf (l : Launch) {D : va_G} {cI cZ : ClassId} {r : Nat → Nat} {th : Int32} {tc nc ac : Nat} {ch : Int32} {U : Nat → Int32} {Z : Nat → Bool} {B L F : Nat → Int32} {H : Heap} (hP : va_P D vwCl (wM cI cZ r th tc nc ac ch U Z B L F) H) (htc : tc ≤ 8) (hnc : nc ≤ 40) (hac : ac ≤ 8) (hD0 : va_D (fun _ => True) (wM cI cZ r th tc nc ac ch U Z B L F)) {t : Nat} (ht : t < ac) : Met l yX1_stubbornnessOf wsX1_stubbornnessOf ({ frames := 2, cells := 0, slots := 0, locals := 43 }) (va_Pc [.ref (r 0), .int (nI t)] (rd D vwCl (tyA cI cZ) H)) (va_Qi (fun r (_ : Unit) => r = L t) (fun _ t8 => va_P D vwCl (wM cI cZ r 0 tc nc ac ch U Z B L F) t8.heap) (va_A (wM cI cZ r th tc nc ac ch U Z B L F) H.size)) 0 0 (va_A (wM cI cZ r th tc nc ac ch U Z B L F) H.size) := by
  refine Met.ofW (cc := cX1_stubbornnessOf) (maxL := 2) (ret := (some .int)) (by decide) rfl ?_
  intro p e s m args below meth c s₁ B9 hml hv
  obtain ⟨rfl, hH, hK⟩ := hv
  subst hH
  have hx := B9.exec
  have hb := B9.bytes
  have hr := B9.returns
  have hts := atoms_spec (ws := wsX1_stubbornnessOf) B9.pre
  have hown : s.vm.findClass RX1 = some m.cls := findClass_of_methodNamed B9.named
  have hlocks := B9.notSynchronized
  have hin : ∀ w ∈ u_ws RX1 TX1 10, w ∈ wsX1_stubbornnessOf := fun w h => List.mem_cons_of_mem _ (List.mem_append_right _ h)
  have hD0 := hD0.self (sz := s.heap.size)
  generalize hAe : va_A (wM cI cZ r th tc nc ac ch U Z B L F) s.heap.size = A at hD0 ⊢
  have hA : ∀ q : Nat, s.heap.size ≤ q → A q := fun q h => by rw [← hAe]; exact Or.inr h
  have hS : va_S A s.heap s.heap [] := va_S.rf
  have hD := hD0
  have hl := lv_entry ([.ref (r 0), .int (nI t)]) (n := 2) (Nat.le_of_ble_eq_true rfl)
  rw [lg_entry_eq]
  generalize (lg_sl ([.ref (r 0), .int (nI t)]) ++ List.replicate (2 - (lg_sl ([.ref (r 0), .int (nI t)])).length) Slot.unset).toArray = ls at hl ⊢
  have hl : lv_has ls 2 [(0, .ref (r 0)), (1, .int (nI t))] := hl
  refine lv_aload_n hx hb dX1_stubbornnessOf_0 rfl (lv_at hl 0 rfl) ?_
  refine lv_iconst (v := 0) hx hb dX1_stubbornnessOf_1 (by decide) ?_
  refine va_put (D := D) (ci := 1) (v := .int 0) (ty := .int) (C := RX1) (T := TX1) (N := 10) hx hb hts hin tyX1 tyX1_ok nmX1 hown hK hP hD hS 0 rfl rfl 0 (by decide) (hts (.fieldLink RX1 26 "SmudgedStarModel" "thrown" "I") (List.mem_of_getElem? (i := 1) rfl)) (fun _ h9 => h9) rfl (by decide +kernel) rfl rfl (Nat.le_of_ble_eq_true rfl) dX1_stubbornnessOf_2 (fun H locs hP hD hS => ?_)
  have hP : va_P D vwCl (wM cI cZ r 0 tc nc ac ch U Z B L F) H := hP
  have hD : va_D A (wM cI cZ r 0 tc nc ac ch U Z B L F) := va_D_re hD rfl
  refine lv_aload_n hx hb dX1_stubbornnessOf_5 rfl (lv_at hl 0 rfl) ?_
  refine lv_iload_n hx hb dX1_stubbornnessOf_6 rfl (lv_at hl 1 rfl) ?_
  refine pcV_i (As := [.int (nI t)]) (rest := []) ⟨hx, hb, hml, hown, hts⟩ (g_M_isAstronomer l hP htc hnc hac (v := nI t)) (cwV 1 hts gX1_stubbornnessOf_X1_isAstronomer rfl rfl rfl hdX1_isAstronomer ⟨Nat.le_of_ble_eq_true rfl, Nat.le_of_ble_eq_true rfl⟩) (va_recv hK hP (ci := 1) (q0 := 0) rfl rfl) hK rfl hl.1 (Nat.le_of_ble_eq_true rfl) rfl dX1_stubbornnessOf_7 ⟨Nat.le_of_ble_eq_true rfl, Nat.le_of_ble_eq_true rfl⟩ ?_
  refine lv_ifb_eq (tgt := 22) hx hb dX1_stubbornnessOf_10 (by decide) (fun c10 => absurd (c10.symm.trans (rg_in ht (by omega))) (by decide)) (fun c10 => ?_)
  refine lv_aload_n hx hb dX1_stubbornnessOf_13 rfl (lv_at hl 0 rfl) ?_
  refine va_get (D := D) (ci := 1) (v := .ref (r 4)) (C := RX1) (T := TX1) (N := 10) hx hb hts hin hown hK hP 0 rfl rfl 7 (by decide) (hts (.fieldLink RX1 20 "SmudgedStarModel" "left" "[I") (List.mem_of_getElem? (i := 2) rfl)) (fun _ h9 => h9) rfl dX1_stubbornnessOf_14 ?_
  refine lv_iload_n hx hb dX1_stubbornnessOf_17 rfl (lv_at hl 1 rfl) ?_
  refine ia_ld hx hb hK hP 4 0 rfl rfl (j := t) (by omega) (by decide) dX1_stubbornnessOf_18 ?_
  refine lv_goto (tgt := 27) hx hb dX1_stubbornnessOf_19 (by decide) ?_
  have hPe : va_P D vwCl (wM cI cZ r 0 tc nc ac ch U Z B L F) H := hP
  exact W.iret (v := L t) hx hb hr (fun t9 ht9 hW9 => ⟨⟨L t, (), rfl, rfl, by show va_P D vwCl _ t9.heap; rw [ht9]; exact hPe⟩, hS.F ht9⟩) hS.2.2 dX1_stubbornnessOf_27
set_option maxHeartbeats 4000000 in
set_option maxRecDepth 100000 in
theorem wb_M_stubbornnessOf (l : Launch) {D : va_G} {cI cZ : ClassId} {r : Nat → Nat} {th : Int32} {tc nc ac : Nat} {ch : Int32} {U : Nat → Int32} {Z : Nat → Bool} {B L F : Nat → Int32} {H : Heap} (hP : va_P D vwCl (wM cI cZ r th tc nc ac ch U Z B L F) H) (htc : tc ≤ 8) (hnc : nc ≤ 40) (hac : ac ≤ 8) (hD0 : va_D (fun _ => True) (wM cI cZ r th tc nc ac ch U Z B L F)) {v : Int32} (hv : v < 0 ∨ nI ac ≤ v) : Met l yX1_stubbornnessOf wsX1_stubbornnessOf ({ frames := 2, cells := 0, slots := 0, locals := 43 }) (va_Pc [.ref (r 0), .int v] (rd D vwCl (tyA cI cZ) H)) (va_Qi (fun r (_ : Unit) => r = 0) (fun _ t8 => va_P D vwCl (wM cI cZ r 1 tc nc ac ch U Z B L F) t8.heap) (va_A (wM cI cZ r th tc nc ac ch U Z B L F) H.size)) 0 0 (va_A (wM cI cZ r th tc nc ac ch U Z B L F) H.size) := by
  refine Met.ofW (cc := cX1_stubbornnessOf) (maxL := 2) (ret := (some .int)) (by decide) rfl ?_
  intro p e s m args below meth c s₁ B9 hml hv
  obtain ⟨rfl, hH, hK⟩ := hv
  subst hH
  have hx := B9.exec
  have hb := B9.bytes
  have hr := B9.returns
  have hts := atoms_spec (ws := wsX1_stubbornnessOf) B9.pre
  have hown : s.vm.findClass RX1 = some m.cls := findClass_of_methodNamed B9.named
  have hlocks := B9.notSynchronized
  have hin : ∀ w ∈ u_ws RX1 TX1 10, w ∈ wsX1_stubbornnessOf := fun w h => List.mem_cons_of_mem _ (List.mem_append_right _ h)
  have hD0 := hD0.self (sz := s.heap.size)
  generalize hAe : va_A (wM cI cZ r th tc nc ac ch U Z B L F) s.heap.size = A at hD0 ⊢
  have hA : ∀ q : Nat, s.heap.size ≤ q → A q := fun q h => by rw [← hAe]; exact Or.inr h
  have hS : va_S A s.heap s.heap [] := va_S.rf
  have hD := hD0
  have hl := lv_entry ([.ref (r 0), .int v]) (n := 2) (Nat.le_of_ble_eq_true rfl)
  rw [lg_entry_eq]
  generalize (lg_sl ([.ref (r 0), .int v]) ++ List.replicate (2 - (lg_sl ([.ref (r 0), .int v])).length) Slot.unset).toArray = ls at hl ⊢
  have hl : lv_has ls 2 [(0, .ref (r 0)), (1, .int v)] := hl
  refine lv_aload_n hx hb dX1_stubbornnessOf_0 rfl (lv_at hl 0 rfl) ?_
  refine lv_iconst (v := 0) hx hb dX1_stubbornnessOf_1 (by decide) ?_
  refine va_put (D := D) (ci := 1) (v := .int 0) (ty := .int) (C := RX1) (T := TX1) (N := 10) hx hb hts hin tyX1 tyX1_ok nmX1 hown hK hP hD hS 0 rfl rfl 0 (by decide) (hts (.fieldLink RX1 26 "SmudgedStarModel" "thrown" "I") (List.mem_of_getElem? (i := 1) rfl)) (fun _ h9 => h9) rfl (by decide +kernel) rfl rfl (Nat.le_of_ble_eq_true rfl) dX1_stubbornnessOf_2 (fun H locs hP hD hS => ?_)
  have hP : va_P D vwCl (wM cI cZ r 0 tc nc ac ch U Z B L F) H := hP
  have hD : va_D A (wM cI cZ r 0 tc nc ac ch U Z B L F) := va_D_re hD rfl
  refine lv_aload_n hx hb dX1_stubbornnessOf_5 rfl (lv_at hl 0 rfl) ?_
  refine lv_iload_n hx hb dX1_stubbornnessOf_6 rfl (lv_at hl 1 rfl) ?_
  refine pcV_i (As := [.int v]) (rest := []) ⟨hx, hb, hml, hown, hts⟩ (g_M_isAstronomer l hP htc hnc hac (v := v)) (cwV 1 hts gX1_stubbornnessOf_X1_isAstronomer rfl rfl rfl hdX1_isAstronomer ⟨Nat.le_of_ble_eq_true rfl, Nat.le_of_ble_eq_true rfl⟩) (va_recv hK hP (ci := 1) (q0 := 0) rfl rfl) hK rfl hl.1 (Nat.le_of_ble_eq_true rfl) rfl dX1_stubbornnessOf_7 ⟨Nat.le_of_ble_eq_true rfl, Nat.le_of_ble_eq_true rfl⟩ ?_
  refine lv_ifb_eq (tgt := 22) hx hb dX1_stubbornnessOf_10 (by decide) (fun c10 => ?_) (fun c10 => absurd (c10.symm.trans (rg_out (n := ac) (by omega) hv)) (by decide))
  refine lv_aload_n hx hb dX1_stubbornnessOf_22 rfl (lv_at hl 0 rfl) ?_
  refine lv_iconst (v := 1) hx hb dX1_stubbornnessOf_23 (by decide) ?_
  refine wcV_i (As := [.int 1]) (rest := []) ⟨hx, hb, hml, hown, hts⟩ (w_M_no l hP htc hnc hac (hD.weaken (fun _ _ _ _ => trivial)) (v := 1)) (cwV 1 hts gX1_stubbornnessOf_X1_no rfl rfl rfl hdX1_no ⟨Nat.le_of_ble_eq_true rfl, Nat.le_of_ble_eq_true rfl⟩) (va_recv hK hP (ci := 1) (q0 := 0) rfl rfl) hK hS (va_free_all hD hS hA) rfl hl.1 (Nat.le_of_ble_eq_true rfl) rfl dX1_stubbornnessOf_24 ⟨Nat.le_of_ble_eq_true rfl, Nat.le_of_ble_eq_true rfl⟩ (fun H locs hP hz1 hk1 hS => ?_)
  have hP : va_P D vwCl (wM cI cZ r 1 tc nc ac ch U Z B L F) H := hP
  have hD : va_D A (wM cI cZ r 1 tc nc ac ch U Z B L F) := va_D_re hD rfl
  have hPe : va_P D vwCl (wM cI cZ r 1 tc nc ac ch U Z B L F) H := hP
  exact W.iret (v := 0) hx hb hr (fun t9 ht9 hW9 => ⟨⟨0, (), rfl, rfl, by show va_P D vwCl _ t9.heap; rw [ht9]; exact hPe⟩, hS.F ht9⟩) hS.2.2 dX1_stubbornnessOf_27
set_option maxHeartbeats 4000000 in
set_option maxRecDepth 100000 in
theorem w_M_unexplainedBy (l : Launch) {D : va_G} {cI cZ : ClassId} {r : Nat → Nat} {th : Int32} {tc nc ac : Nat} {ch : Int32} {U : Nat → Int32} {Z : Nat → Bool} {B L F : Nat → Int32} {H : Heap} (hP : va_P D vwCl (wM cI cZ r th tc nc ac ch U Z B L F) H) (htc : tc ≤ 8) (hnc : nc ≤ 40) (hac : ac ≤ 8) (hD0 : va_D (fun _ => True) (wM cI cZ r th tc nc ac ch U Z B L F)) {t : Nat} (ht : t < ac) : Met l yX1_unexplainedBy wsX1_unexplainedBy ({ frames := 2, cells := 0, slots := 0, locals := 45 }) (va_Pc [.ref (r 0), .int (nI t)] (rd D vwCl (tyA cI cZ) H)) (va_Qi (fun r (_ : Unit) => r = nI (un U Z (B t) nc)) (fun _ t8 => va_P D vwCl (wM cI cZ r 0 tc nc ac ch U Z B L F) t8.heap) (va_A (wM cI cZ r th tc nc ac ch U Z B L F) H.size)) 0 0 (va_A (wM cI cZ r th tc nc ac ch U Z B L F) H.size) := by
  refine Met.ofW (cc := cX1_unexplainedBy) (maxL := 2) (ret := (some .int)) (by decide) rfl ?_
  intro p e s m args below meth c s₁ B9 hml hv
  obtain ⟨rfl, hH, hK⟩ := hv
  subst hH
  have hx := B9.exec
  have hb := B9.bytes
  have hr := B9.returns
  have hts := atoms_spec (ws := wsX1_unexplainedBy) B9.pre
  have hown : s.vm.findClass RX1 = some m.cls := findClass_of_methodNamed B9.named
  have hlocks := B9.notSynchronized
  have hin : ∀ w ∈ u_ws RX1 TX1 10, w ∈ wsX1_unexplainedBy := fun w h => List.mem_cons_of_mem _ (List.mem_append_right _ h)
  have hD0 := hD0.self (sz := s.heap.size)
  generalize hAe : va_A (wM cI cZ r th tc nc ac ch U Z B L F) s.heap.size = A at hD0 ⊢
  have hA : ∀ q : Nat, s.heap.size ≤ q → A q := fun q h => by rw [← hAe]; exact Or.inr h
  have hS : va_S A s.heap s.heap [] := va_S.rf
  have hD := hD0
  have hl := lv_entry ([.ref (r 0), .int (nI t)]) (n := 2) (Nat.le_of_ble_eq_true rfl)
  rw [lg_entry_eq]
  generalize (lg_sl ([.ref (r 0), .int (nI t)]) ++ List.replicate (2 - (lg_sl ([.ref (r 0), .int (nI t)])).length) Slot.unset).toArray = ls at hl ⊢
  have hl : lv_has ls 2 [(0, .ref (r 0)), (1, .int (nI t))] := hl
  refine lv_aload_n hx hb dX1_unexplainedBy_0 rfl (lv_at hl 0 rfl) ?_
  refine lv_iconst (v := 0) hx hb dX1_unexplainedBy_1 (by decide) ?_
  refine va_put (D := D) (ci := 1) (v := .int 0) (ty := .int) (C := RX1) (T := TX1) (N := 10) hx hb hts hin tyX1 tyX1_ok nmX1 hown hK hP hD hS 0 rfl rfl 0 (by decide) (hts (.fieldLink RX1 26 "SmudgedStarModel" "thrown" "I") (List.mem_of_getElem? (i := 1) rfl)) (fun _ h9 => h9) rfl (by decide +kernel) rfl rfl (Nat.le_of_ble_eq_true rfl) dX1_unexplainedBy_2 (fun H locs hP hD hS => ?_)
  have hP : va_P D vwCl (wM cI cZ r 0 tc nc ac ch U Z B L F) H := hP
  have hD : va_D A (wM cI cZ r 0 tc nc ac ch U Z B L F) := va_D_re hD rfl
  refine lv_aload_n hx hb dX1_unexplainedBy_5 rfl (lv_at hl 0 rfl) ?_
  refine lv_iload_n hx hb dX1_unexplainedBy_6 rfl (lv_at hl 1 rfl) ?_
  refine pcV_i (As := [.int (nI t)]) (rest := []) ⟨hx, hb, hml, hown, hts⟩ (g_M_isAstronomer l hP htc hnc hac (v := nI t)) (cwV 1 hts gX1_unexplainedBy_X1_isAstronomer rfl rfl rfl hdX1_isAstronomer ⟨Nat.le_of_ble_eq_true rfl, Nat.le_of_ble_eq_true rfl⟩) (va_recv hK hP (ci := 1) (q0 := 0) rfl rfl) hK rfl hl.1 (Nat.le_of_ble_eq_true rfl) rfl dX1_unexplainedBy_7 ⟨Nat.le_of_ble_eq_true rfl, Nat.le_of_ble_eq_true rfl⟩ ?_
  refine lv_ifb_eq (tgt := 26) hx hb dX1_unexplainedBy_10 (by decide) (fun c10 => absurd (c10.symm.trans (rg_in ht (by omega))) (by decide)) (fun c10 => ?_)
  refine lv_aload_n hx hb dX1_unexplainedBy_13 rfl (lv_at hl 0 rfl) ?_
  refine lv_aload_n hx hb dX1_unexplainedBy_14 rfl (lv_at hl 0 rfl) ?_
  refine va_get (D := D) (ci := 1) (v := .ref (r 5)) (C := RX1) (T := TX1) (N := 10) hx hb hts hin hown hK hP 0 rfl rfl 8 (by decide) (hts (.fieldLink RX1 23 "SmudgedStarModel" "blames" "[I") (List.mem_of_getElem? (i := 2) rfl)) (fun _ h9 => h9) rfl dX1_unexplainedBy_15 ?_
  refine lv_iload_n hx hb dX1_unexplainedBy_18 rfl (lv_at hl 1 rfl) ?_
  refine ia_ld hx hb hK hP 5 0 rfl rfl (j := t) (by omega) (by decide) dX1_unexplainedBy_19 ?_
  refine pcV_i (As := [.int (B t)]) (rest := []) ⟨hx, hb, hml, hown, hts⟩ (g_M_unexplained l hP htc hnc hac (v := B t)) (cwV 1 hts gX1_unexplainedBy_X1_unexplained rfl rfl rfl hdX1_unexplained ⟨Nat.le_of_ble_eq_true rfl, Nat.le_of_ble_eq_true rfl⟩) (va_recv hK hP (ci := 1) (q0 := 0) rfl rfl) hK rfl hl.1 (Nat.le_of_ble_eq_true rfl) rfl dX1_unexplainedBy_20 ⟨Nat.le_of_ble_eq_true rfl, Nat.le_of_ble_eq_true rfl⟩ ?_
  refine lv_goto (tgt := 31) hx hb dX1_unexplainedBy_23 (by decide) ?_
  have hPe : va_P D vwCl (wM cI cZ r 0 tc nc ac ch U Z B L F) H := hP
  exact W.iret (v := nI (un U Z (B t) nc)) hx hb hr (fun t9 ht9 hW9 => ⟨⟨nI (un U Z (B t) nc), (), rfl, rfl, by show va_P D vwCl _ t9.heap; rw [ht9]; exact hPe⟩, hS.F ht9⟩) hS.2.2 dX1_unexplainedBy_31
set_option maxHeartbeats 4000000 in
set_option maxRecDepth 100000 in
theorem wb_M_unexplainedBy (l : Launch) {D : va_G} {cI cZ : ClassId} {r : Nat → Nat} {th : Int32} {tc nc ac : Nat} {ch : Int32} {U : Nat → Int32} {Z : Nat → Bool} {B L F : Nat → Int32} {H : Heap} (hP : va_P D vwCl (wM cI cZ r th tc nc ac ch U Z B L F) H) (htc : tc ≤ 8) (hnc : nc ≤ 40) (hac : ac ≤ 8) (hD0 : va_D (fun _ => True) (wM cI cZ r th tc nc ac ch U Z B L F)) {v : Int32} (hv : v < 0 ∨ nI ac ≤ v) : Met l yX1_unexplainedBy wsX1_unexplainedBy ({ frames := 2, cells := 0, slots := 0, locals := 45 }) (va_Pc [.ref (r 0), .int v] (rd D vwCl (tyA cI cZ) H)) (va_Qi (fun r (_ : Unit) => r = 0) (fun _ t8 => va_P D vwCl (wM cI cZ r 1 tc nc ac ch U Z B L F) t8.heap) (va_A (wM cI cZ r th tc nc ac ch U Z B L F) H.size)) 0 0 (va_A (wM cI cZ r th tc nc ac ch U Z B L F) H.size) := by
  refine Met.ofW (cc := cX1_unexplainedBy) (maxL := 2) (ret := (some .int)) (by decide) rfl ?_
  intro p e s m args below meth c s₁ B9 hml hv
  obtain ⟨rfl, hH, hK⟩ := hv
  subst hH
  have hx := B9.exec
  have hb := B9.bytes
  have hr := B9.returns
  have hts := atoms_spec (ws := wsX1_unexplainedBy) B9.pre
  have hown : s.vm.findClass RX1 = some m.cls := findClass_of_methodNamed B9.named
  have hlocks := B9.notSynchronized
  have hin : ∀ w ∈ u_ws RX1 TX1 10, w ∈ wsX1_unexplainedBy := fun w h => List.mem_cons_of_mem _ (List.mem_append_right _ h)
  have hD0 := hD0.self (sz := s.heap.size)
  generalize hAe : va_A (wM cI cZ r th tc nc ac ch U Z B L F) s.heap.size = A at hD0 ⊢
  have hA : ∀ q : Nat, s.heap.size ≤ q → A q := fun q h => by rw [← hAe]; exact Or.inr h
  have hS : va_S A s.heap s.heap [] := va_S.rf
  have hD := hD0
  have hl := lv_entry ([.ref (r 0), .int v]) (n := 2) (Nat.le_of_ble_eq_true rfl)
  rw [lg_entry_eq]
  generalize (lg_sl ([.ref (r 0), .int v]) ++ List.replicate (2 - (lg_sl ([.ref (r 0), .int v])).length) Slot.unset).toArray = ls at hl ⊢
  have hl : lv_has ls 2 [(0, .ref (r 0)), (1, .int v)] := hl
  refine lv_aload_n hx hb dX1_unexplainedBy_0 rfl (lv_at hl 0 rfl) ?_
  refine lv_iconst (v := 0) hx hb dX1_unexplainedBy_1 (by decide) ?_
  refine va_put (D := D) (ci := 1) (v := .int 0) (ty := .int) (C := RX1) (T := TX1) (N := 10) hx hb hts hin tyX1 tyX1_ok nmX1 hown hK hP hD hS 0 rfl rfl 0 (by decide) (hts (.fieldLink RX1 26 "SmudgedStarModel" "thrown" "I") (List.mem_of_getElem? (i := 1) rfl)) (fun _ h9 => h9) rfl (by decide +kernel) rfl rfl (Nat.le_of_ble_eq_true rfl) dX1_unexplainedBy_2 (fun H locs hP hD hS => ?_)
  have hP : va_P D vwCl (wM cI cZ r 0 tc nc ac ch U Z B L F) H := hP
  have hD : va_D A (wM cI cZ r 0 tc nc ac ch U Z B L F) := va_D_re hD rfl
  refine lv_aload_n hx hb dX1_unexplainedBy_5 rfl (lv_at hl 0 rfl) ?_
  refine lv_iload_n hx hb dX1_unexplainedBy_6 rfl (lv_at hl 1 rfl) ?_
  refine pcV_i (As := [.int v]) (rest := []) ⟨hx, hb, hml, hown, hts⟩ (g_M_isAstronomer l hP htc hnc hac (v := v)) (cwV 1 hts gX1_unexplainedBy_X1_isAstronomer rfl rfl rfl hdX1_isAstronomer ⟨Nat.le_of_ble_eq_true rfl, Nat.le_of_ble_eq_true rfl⟩) (va_recv hK hP (ci := 1) (q0 := 0) rfl rfl) hK rfl hl.1 (Nat.le_of_ble_eq_true rfl) rfl dX1_unexplainedBy_7 ⟨Nat.le_of_ble_eq_true rfl, Nat.le_of_ble_eq_true rfl⟩ ?_
  refine lv_ifb_eq (tgt := 26) hx hb dX1_unexplainedBy_10 (by decide) (fun c10 => ?_) (fun c10 => absurd (c10.symm.trans (rg_out (n := ac) (by omega) hv)) (by decide))
  refine lv_aload_n hx hb dX1_unexplainedBy_26 rfl (lv_at hl 0 rfl) ?_
  refine lv_iconst (v := 1) hx hb dX1_unexplainedBy_27 (by decide) ?_
  refine wcV_i (As := [.int 1]) (rest := []) ⟨hx, hb, hml, hown, hts⟩ (w_M_no l hP htc hnc hac (hD.weaken (fun _ _ _ _ => trivial)) (v := 1)) (cwV 1 hts gX1_unexplainedBy_X1_no rfl rfl rfl hdX1_no ⟨Nat.le_of_ble_eq_true rfl, Nat.le_of_ble_eq_true rfl⟩) (va_recv hK hP (ci := 1) (q0 := 0) rfl rfl) hK hS (va_free_all hD hS hA) rfl hl.1 (Nat.le_of_ble_eq_true rfl) rfl dX1_unexplainedBy_28 ⟨Nat.le_of_ble_eq_true rfl, Nat.le_of_ble_eq_true rfl⟩ (fun H locs hP hz1 hk1 hS => ?_)
  have hP : va_P D vwCl (wM cI cZ r 1 tc nc ac ch U Z B L F) H := hP
  have hD : va_D A (wM cI cZ r 1 tc nc ac ch U Z B L F) := va_D_re hD rfl
  have hPe : va_P D vwCl (wM cI cZ r 1 tc nc ac ch U Z B L F) H := hP
  exact W.iret (v := 0) hx hb hr (fun t9 ht9 hW9 => ⟨⟨0, (), rfl, rfl, by show va_P D vwCl _ t9.heap; rw [ht9]; exact hPe⟩, hS.F ht9⟩) hS.2.2 dX1_unexplainedBy_31
