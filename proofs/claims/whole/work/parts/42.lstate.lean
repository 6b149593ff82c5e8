/-! ===== the law: what holds at the head of its loop ===== -/
abbrev lA (s : State) : Nat → Prop := fun q => s.heap.size ≤ q
def xE0 (s : State) : Prop := vx_Zq Bundle.tN "UNASSIGNED_STACK" Bundle.steD (lA s) s s.heap ∧ vx_Zq Bundle.tN "SUPPRESSED_SENTINEL" Bundle.listD (lA s) s s.heap ∧ (∀ w ∈ xNL, w.before #[] s = true) ∧ (∀ q ∈ strL, ∃ sa, vk_R RX0 q.1 q.2 sa s) ∧ va_Nc EIS EIA s ∧ va_Nc EIA EIO s
theorem xE_law {s : State} {H : Heap} {locs : List Loc} (h : xE0 s) (hS : va_S (lA s) s.heap H locs) : xE s H := xE_kept h.1 h.2.1 h.2.2.1 h.2.2.2.1 h.2.2.2.2.1 h.2.2.2.2.2 hS
/-- what holds all over the law: the machine, its words, its script, the classes, what the throws stand on -/
def LCtx (l : Launch) (p : Program) (s : State) (m : MethodId) (c : Code) (b N : Nat) (xs : Nat → Int32) (D : va_G) (cI cZ cJ : ClassId) : Prop :=
  p.tables.exec = Jvm.exec ∧ c.code = cL_law ∧ c.maxLocals = 9 ∧ s.vm.findClass RL = some m.cls ∧ (∀ w ∈ wsL_law, w.before #[Value.ref b] s = true) ∧ va_X b N xs s s.heap ∧ b < s.heap.size ∧ N < 2 ^ 31 ∧ l.stackTraces = false ∧ va_K D vwCl (tyA cI cZ ++ [(cJ, .long)]) s ∧ xE0 s
/-- the loop's state: the two objects tell the same -/
def LStt (s : State) (D : va_G) (cI cZ cJ : ClassId) (q r : Nat → Nat) (o b i : Nat) (H : Heap) (locs : List Loc) (ls : Array Slot) : Prop :=
  ∃ (th : Int32) (tc nc ac : Nat) (ch : Int32) (U : Nat → Int32) (Z : Nat → Bool) (V : Nat → Int32) (Y : Nat → Bool) (B L F : Nat → Int32) (f : Nat → Int64),
    va_S (lA s) s.heap H locs ∧ va_P D vwCl ((wX cI cZ q tc nc ac ch U Z B L F ++ [(o, .inl (cJ, 1, .inr (.inl f)))]) ++ wM cI cZ r th tc nc ac ch V Y B L F) H ∧ va_D (lA s) ((wX cI cZ q tc nc ac ch U Z B L F ++ [(o, .inl (cJ, 1, .inr (.inl f)))]) ++ wM cI cZ r th tc nc ac ch V Y B L F) ∧ tc ≤ 8 ∧ nc ≤ 40 ∧ ac ≤ 8 ∧ (∀ j, j < nc → V j = U j) ∧ (∀ j, j < nc → Y j = Z j) ∧ (∀ a, a < 8 → ∃ k, k < 256 ∧ B a = nI k) ∧ (∀ a, ac ≤ a → B a = 0) ∧
    lv_has ls 9 [(4, .int (nI i)), (3, .ref o), (2, .ref (r 0)), (1, .ref (q 0)), (0, .ref b)]
theorem upd0 {B : Nat → Int32} {ac : Nat} (h : ∀ a, ac ≤ a → B a = 0) (j : Nat) : upd B ac 0 j = B j := by
  show (if j = ac then (0 : Int32) else B j) = B j
  by_cases e : j = ac
  · rw [if_pos e, e, h ac (Nat.le_refl _)]
  · rw [if_neg e]
theorem updB_k {B : Nat → Int32} {t k : Nat} (hB : ∀ a, a < 8 → ∃ k, k < 256 ∧ B a = nI k) (hk : k < 256) : ∀ a, a < 8 → ∃ k9, k9 < 256 ∧ upd B t (nI k) a = nI k9 := by
  intro a ha
  by_cases e : a = t
  · exact ⟨k, hk, if_pos e⟩
  · obtain ⟨k9, h1, h2⟩ := hB a ha
    exact ⟨k9, h1, (if_neg e).trans h2⟩
theorem upd_off {B : Nat → Int32} {ac t : Nat} {v : Int32} (h : ∀ a, ac ≤ a → B a = 0) (ht : t < ac) : ∀ a, ac ≤ a → upd B t v a = 0 := fun a ha => (if_neg (by omega)).trans (h a ha)
theorem upd_in {α : Type} {U V : Nat → α} {n : Nat} {g : Nat → α} (hu : ∀ j, j < n → V j = U j) (hg : ∀ j, j < n → g j = V j) : ∀ j, j < n → g j = U j := fun j hj => (hg j hj).trans (hu j hj)
theorem dg_eq {U V : Nat → Int32} {Z Y : Nat → Bool} {nc tc ac : Nat} (hu : ∀ j, j < nc → V j = U j) (hz : ∀ j, j < nc → Y j = Z j) (hnc : nc ≤ 40) (htc : tc ≤ 8) (B L : Nat → Int32) (ch : Int32) : dfo (fun a x => mix (mix (mix x (B a).toInt64) (L a).toInt64) (nI (un V Y (B a) nc)).toInt64) (dfo (fun j x => mix (mix x (V j).toInt64) (bI (Y j)).toInt64) (dfo (fun t x => dTh (nI (ct (fun j => hs (V j) (nI t) && (Y j || !false)) nc)) (nI (ct (fun j => hs (V j) (nI t) && (Y j || !true)) nc)) (bI (hs (cld V Y nc) (nI t))) (bI (anyb (fun j => Y j && hs (V j) (nI t) && decide (V j &&& ((cld V Y nc ^^^ (-1)) &&& (((1 : Int32) <<< (nI t &&& 31)) ^^^ (-1))) = 0)) nc)) (nI (ct (fun k => hs (nI k) (nI t) && zz V Y nc k) (pw tc))) (nI (ct (fun a => hs (B a) (nI t)) ac)) x) (dhd (nI tc) (nI nc) (nI (ct Y nc)) (bI (!(decide (smm (fun k => zz V Y nc k) (pw tc) = -1)))) (nI ac) (orf (fun t => decide (¬ 2 * nI (ct (fun a => hs (B a) (nI t)) ac) ≤ nI ac)) (fun t => (1 : Int32) <<< (nI t &&& 31)) tc) ch (nI (ex V Y nc (pw tc))) (smm (fun k => zz V Y nc k) (pw tc)) (anf (fun k => zz V Y nc k) (-1) (pw tc))) tc) nc) ac = dfo (fun a x => mix (mix (mix x (B a).toInt64) (L a).toInt64) (nI (un U Z (B a) nc)).toInt64) (dfo (fun j x => mix (mix x (U j).toInt64) (bI (Z j)).toInt64) (dfo (fun t x => dTh (nI (ct (fun j => ho (U j) (nI t)) nc)) (nI (ct (fun j => Z j && ho (U j) (nI t)) nc)) (bI (ho (cld U Z nc) (nI t))) (bI (anyb (fun j => Z j && ho (U j) (nI t) && decide (U j &&& ((cld U Z nc ||| ((1 : Int32) <<< (nI t &&& 31))) ^^^ (-1)) = 0)) nc)) (nI (mt U Z nc (pw tc) ((1 : Int32) <<< (nI t &&& 31)))) (nI (ct (fun a => ho (B a) (nI t)) ac)) x) (dhd (nI tc) (nI nc) (nI (ct Z nc)) (bI (decide (mnf (mis U Z nc) (nI nc) (pw tc) = 0))) (nI ac) (orf (fun t => decide (¬ nI (ct (fun a => ho (B a) (nI t)) ac) * 2 ≤ nI ac)) (fun t => (1 : Int32) <<< (nI t &&& 31)) tc) ch (nI (ex U Z nc (pw tc))) ((spx (fun k => zz U Z nc k) (pw tc)).1) ((if decide (mnf (mis U Z nc) (nI nc) (pw tc) = 0) = true then anf (fun k => zz U Z nc k) (nI (pw tc - 1)) (pw tc) else -1))) tc) nc) ac := by
  have hpw := pw_in htc
  have h1 : ∀ d, dfo (fun a x => mix (mix (mix x (B a).toInt64) (L a).toInt64) (nI (un V Y (B a) nc)).toInt64) d ac = dfo (fun a x => mix (mix (mix x (B a).toInt64) (L a).toInt64) (nI (un U Z (B a) nc)).toInt64) d ac := fun d => dfo_cong ac (fun a x _ => by
    show mix (mix (mix x (B a).toInt64) (L a).toInt64) (nI (un V Y (B a) nc)).toInt64 = _
    rw [un_cong hu hz (B a)])
  have h2 : ∀ d, dfo (fun j x => mix (mix x (V j).toInt64) (bI (Y j)).toInt64) d nc = dfo (fun j x => mix (mix x (U j).toInt64) (bI (Z j)).toInt64) d nc := fun d => dfo_cong nc (fun j x hj => by
    show mix (mix x (V j).toInt64) (bI (Y j)).toInt64 = mix (mix x (U j).toInt64) (bI (Z j)).toInt64
    rw [hu j hj, hz j hj])
  have h3 : ∀ d, dfo (fun t x => dTh (nI (ct (fun j => hs (V j) (nI t) && (Y j || !false)) nc)) (nI (ct (fun j => hs (V j) (nI t) && (Y j || !true)) nc)) (bI (hs (cld V Y nc) (nI t))) (bI (anyb (fun j => Y j && hs (V j) (nI t) && decide (V j &&& ((cld V Y nc ^^^ (-1)) &&& (((1 : Int32) <<< (nI t &&& 31)) ^^^ (-1))) = 0)) nc)) (nI (ct (fun k => hs (nI k) (nI t) && zz V Y nc k) (pw tc))) (nI (ct (fun a => hs (B a) (nI t)) ac)) x) d tc = dfo (fun t x => dTh (nI (ct (fun j => ho (U j) (nI t)) nc)) (nI (ct (fun j => Z j && ho (U j) (nI t)) nc)) (bI (ho (cld U Z nc) (nI t))) (bI (anyb (fun j => Z j && ho (U j) (nI t) && decide (U j &&& ((cld U Z nc ||| ((1 : Int32) <<< (nI t &&& 31))) ^^^ (-1)) = 0)) nc)) (nI (mt U Z nc (pw tc) ((1 : Int32) <<< (nI t &&& 31)))) (nI (ct (fun a => ho (B a) (nI t)) ac)) x) d tc := fun d => dfo_cong tc (fun t x ht => by
    have h32 : t < 32 := by omega
    try dsimp only
    rw [nw_eq hu hz h32, sw_eq hu hz h32, cl_eq hu hz h32, pv_eq hu hz h32, st_eq hu hz h32, vt_eq B h32])
  have a2 : bI (!(decide (smm (fun k => zz V Y nc k) (pw tc) = -1))) = bI (decide (mnf (mis U Z nc) (nI nc) (pw tc) = 0)) := by
    rw [zzf_cong hu hz]
    exact congrArg bI (ag_eq U Z hnc hpw.1 hpw.2).symm
  have a5 : smm (fun k => zz V Y nc k) (pw tc) = (spx (fun k => zz U Z nc k) (pw tc)).1 := by
    rw [zzf_cong hu hz]
    exact sim_eq hpw.2
  have a6 : anf (fun k => zz V Y nc k) (-1) (pw tc) = (if decide (mnf (mis U Z nc) (nI nc) (pw tc) = 0) = true then anf (fun k => zz U Z nc k) (nI (pw tc - 1)) (pw tc) else -1) := by
    rw [zzf_cong hu hz]
    exact (su_eq U Z hnc htc).symm
  rw [h1, h2, h3, a2, a5, a6, ct_cong nc hz, vo_eq B ac (by omega : tc ≤ 32), ex_cong hu hz (pw tc)]
