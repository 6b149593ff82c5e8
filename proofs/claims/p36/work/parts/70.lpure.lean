/-! ===== what the law asks of one state: pure ===== -/
section LPURE
theorem sh_ho {t : Nat} (ht : t < 32) (s : Int32) : (s >>> (nI t &&& 31)) &&& 1 = bI (ho s (nI t)) := by
  rw [ho_gb ht]
  have e : (s >>> (nI t &&& 31)).toBitVec.getLsbD 0 = s.toBitVec.getLsbD t := by
    rw [Int32.toBitVec_shiftRight]
    show (s.toBitVec.sshiftRight ((nI t &&& 31).toBitVec.smod 32).toNat).getLsbD 0 = _
    rw [pf_sl t ht, BitVec.getLsbD_sshiftRight]
    simp [ht]
  apply Int32.toBitVec_inj.mp
  rw [Int32.toBitVec_and]
  show (s >>> (nI t &&& 31)).toBitVec &&& 1#32 = _
  rw [BitVec.and_one_eq_setWidth_ofBool_getLsbD, e]
  show _ = (bI (s.toBitVec.getLsbD t)).toBitVec
  cases s.toBitVec.getLsbD t <;> decide
theorem ct_split (p q : Nat → Bool) : ∀ n, ct p n = ct (fun k => q k && p k) n + ct (fun k => !(q k) && p k) n
  | 0 => rfl
  | n + 1 => by
    rw [ct_s, ct_s (fun k => q k && p k) n, ct_s (fun k => !(q k) && p k) n, ct_split p q n]
    cases p n <;> cases q n <;> simp <;> omega
section ST
variable {U : Nat → Int32} {Z : Nat → Bool} {nc tc : Nat}
theorem sm_le (t : Int32) : ct (fun j => Z j && ho (U j) t) nc ≤ ct (fun j => ho (U j) t) nc := ct_sub (fun k h => by
  have h : (Z k && ho (U k) t) = true := h
  rw [Bool.and_eq_true] at h
  exact h.2) nc
theorem cl_lt {t : Nat} (hn : nc ≤ 40) (ht : t < 32) : bI (ho (cld U Z nc) (nI t)) = bI (decide (¬ nI (ct (fun j => ho (U j) (nI t)) nc) ≤ nI (ct (fun j => Z j && ho (U j) (nI t)) nc))) := by
  have h1 := ct_split (fun j => ho (U j) (nI t)) Z nc
  have h2 := ct_le (fun j => ho (U j) (nI t)) nc
  have h3 := sm_le (U := U) (Z := Z) (nc := nc) (nI t)
  rw [← cl_any U Z ht]
  congr 1
  cases ha : anyb (fun j => !(Z j) && ho (U j) (nI t)) nc with
  | true =>
    have h4 := ct_any.mpr ha
    refine (decide_eq_true (p := ¬ _ ≤ _) (fun w => ?_)).symm
    rw [nI_leI (by omega) (by omega)] at w
    omega
  | false =>
    have h4 : ct (fun j => !(Z j) && ho (U j) (nI t)) nc = 0 := by
      rcases Nat.eq_zero_or_pos (ct (fun j => !(Z j) && ho (U j) (nI t)) nc) with z | z
      · exact z
      · rw [ct_any.mp z] at ha; cases ha
    refine (decide_eq_false (p := ¬ _ ≤ _) (fun w => w ?_)).symm
    rw [nI_leI (by omega) (by omega)]
    omega
theorem pv_sm {t : Nat} (hn : nc ≤ 40) (h : anyb (fun j => Z j && ho (U j) (nI t) && decide (U j &&& ((cld U Z nc ||| ((1 : Int32) <<< (nI t &&& 31))) ^^^ (-1)) = 0)) nc = true) : ¬ nI (ct (fun j => Z j && ho (U j) (nI t)) nc) = 0 := by
  obtain ⟨j, hj, e⟩ := anyb_ex h
  have e : (Z j && ho (U j) (nI t) && decide (U j &&& ((cld U Z nc ||| ((1 : Int32) <<< (nI t &&& 31))) ^^^ (-1)) = 0)) = true := e
  rw [Bool.and_eq_true] at e
  have h1 : 0 < ct (fun j => Z j && ho (U j) (nI t)) nc := ct_any.mpr (anyb_of (p := fun j => Z j && ho (U j) (nI t)) e.1 nc hj)
  have h2 := ct_le (fun j => Z j && ho (U j) (nI t)) nc
  exact nI_ne0 h1 (by omega)
/-- a set that explains all explains each night -/
theorem zz_ct {k : Nat} (hn : nc ≤ 40) (hz : zz U Z nc k = true) {j : Nat} (hj : j < nc) : sx (nI k) (U j) (Z j) = true := by
  have h := (zz_iff hn).mp hz
  cases hx : sx (nI k) (U j) (Z j) with
  | true => rfl
  | false =>
    have h2 : 0 < ct (fun j => !(sx (nI k) (U j) (Z j))) nc := ct_any.mpr (anyb_of (p := fun j => !(sx (nI k) (U j) (Z j))) (i := j) (by show (!(sx (nI k) (U j) (Z j))) = true; rw [hx]; rfl) nc hj)
    have h : ct (fun j => !(sx (nI k) (U j) (Z j))) nc = 0 := h
    omega
theorem zz_cl {k t : Nat} (hn : nc ≤ 40) (hz : zz U Z nc k = true) (ht : t < 32) (hc : ho (cld U Z nc) (nI t) = true) : gb (nI k) t = false := by
  rw [← cl_any U Z ht] at hc
  obtain ⟨j, hj, e⟩ := anyb_ex hc
  have e : (!(Z j) && ho (U j) (nI t)) = true := e
  rw [Bool.and_eq_true, ho_gb ht] at e
  have h := zz_ct hn hz hj
  cases hb : gb (nI k) t with
  | false => rfl
  | true =>
    exfalso
    have hne : ¬ nI k &&& U j = 0 := fun w => by
      have h3 := and0.mp w t ht
      rw [hb, e.2] at h3
      cases h3
    have hZ : Z j = false := by
      have := e.1
      cases hq : Z j
      · rfl
      · rw [hq] at this; cases this
    unfold sx at h
    rw [hZ, decide_eq_true hne] at h
    cases h
abbrev fW : Nat → Int32 := fun t => (1 : Int32) <<< (nI t &&& 31)
theorem D_cl {k : Nat} (hn : nc ≤ 40) (ht : tc ≤ 8) (hz : zz U Z nc k = true) : nI k &&& orf (fun t => ho (cld U Z nc) (nI t)) fW tc = 0 := by
  refine and0.mpr (fun t ht9 => ?_)
  rw [gb_orf _ t ht9 tc (by omega)]
  by_cases h : t < tc
  · cases hc : ho (cld U Z nc) (nI t) with
    | true => rw [zz_cl hn hz ht9 hc]; rfl
    | false => rw [Bool.and_false, Bool.and_false]
  · rw [decide_eq_false h, Bool.false_and, Bool.and_false]
theorem zz_pv {k t : Nat} (hn : nc ≤ 40) (hz : zz U Z nc k = true) (ht : t < 32) (hp : anyb (fun j => Z j && ho (U j) (nI t) && decide (U j &&& ((cld U Z nc ||| ((1 : Int32) <<< (nI t &&& 31))) ^^^ (-1)) = 0)) nc = true) : gb (nI k) t = true := by
  obtain ⟨j, hj, e⟩ := anyb_ex hp
  have e : (Z j && ho (U j) (nI t) && decide (U j &&& ((cld U Z nc ||| ((1 : Int32) <<< (nI t &&& 31))) ^^^ (-1)) = 0)) = true := e
  rw [Bool.and_eq_true, Bool.and_eq_true] at e
  have hs := of_decide_eq_true e.2
  have h := zz_ct hn hz hj
  unfold sx at h
  rw [e.1.1] at h
  have hne : ¬ nI k &&& U j = 0 := by
    intro w
    rw [decide_eq_false (fun z => z w)] at h
    cases h
  obtain ⟨o, ho9, hb⟩ : ∃ o, o < 32 ∧ (gb (nI k) o && gb (U j) o) = true := by
    refine Classical.byContradiction (fun hno => hne (and0.mpr (fun o ho9 => ?_)))
    cases hb : (gb (nI k) o && gb (U j) o) with
    | false => rfl
    | true => exact absurd ⟨o, ho9, hb⟩ hno
  rw [Bool.and_eq_true] at hb
  have h1 := and0.mp hs o ho9
  rw [gb_xor, gb_or, gb_one ht ho9, gb_m1 ho9, hb.2] at h1
  by_cases e2 : t = o
  · rw [e2]; exact hb.1
  · rw [decide_eq_false e2] at h1
    have hc : gb (cld U Z nc) o = true := by
      revert h1
      cases gb (cld U Z nc) o <;> simp
    rw [zz_cl hn hz ho9 (by rw [ho_gb ho9]; exact hc)] at hb
    cases hb.1
theorem D_pv {k : Nat} (hn : nc ≤ 40) (ht : tc ≤ 8) (hz : zz U Z nc k = true) : nI k &&& orf (fun t => anyb (fun j => Z j && ho (U j) (nI t) && decide (U j &&& ((cld U Z nc ||| ((1 : Int32) <<< (nI t &&& 31))) ^^^ (-1)) = 0)) nc) fW tc = orf (fun t => anyb (fun j => Z j && ho (U j) (nI t) && decide (U j &&& ((cld U Z nc ||| ((1 : Int32) <<< (nI t &&& 31))) ^^^ (-1)) = 0)) nc) fW tc := by
  refine gb_ext (fun t ht9 => ?_)
  rw [gb_and, gb_orf _ t ht9 tc (by omega)]
  cases hp : anyb (fun j => Z j && ho (U j) (nI t) && decide (U j &&& ((cld U Z nc ||| ((1 : Int32) <<< (nI t &&& 31))) ^^^ (-1)) = 0)) nc with
  | true => rw [zz_pv hn hz ht9 hp, Bool.true_and]
  | false => rw [Bool.and_false, Bool.and_false]
abbrev suX (U : Nat → Int32) (Z : Nat → Bool) (nc tc : Nat) : Int32 := if decide (mnf (mis U Z nc) (nI nc) (pw tc) = 0) = true then anf (fun k => zz U Z nc k) (nI (pw tc - 1)) (pw tc) else -1
theorem D_su {k : Nat} (hn : nc ≤ 40) (ht : tc ≤ 8) (hk : k < pw tc) (hz : zz U Z nc k = true) : nI k &&& suX U Z nc tc = suX U Z nc tc := by
  have hpw := pw_in ht
  have ha : anyb (fun k => zz U Z nc k) (pw tc) = true := anyb_of (p := fun k => zz U Z nc k) hz (pw tc) hk
  unfold suX
  rw [ag_any U Z hn hpw.1, ha, if_pos rfl, and_c, anf_abs (p := fun k => zz U Z nc k) hz _ _ hk]
theorem smp_k {k : Nat} (ht : tc ≤ 8) (hk : k < pw tc) (hz : zz U Z nc k = true) : ∃ m, m < pw tc ∧ (spx (fun k => zz U Z nc k) (pw tc)).1 = nI m ∧ zz U Z nc m = true ∧ (pc m < pc k ∨ (pc m = pc k ∧ m ≤ k)) := by
  have hpw := pw_in ht
  rcases spx_best (fun k => zz U Z nc k) (pw tc) hpw.2 with ⟨-, h⟩ | ⟨m, h1, h2, h3, h4⟩
  · have h : zz U Z nc k = false := h k hk
    rw [hz] at h; cases h
  · exact ⟨m, h1, h2, h3, h4 k hk hz⟩
theorem D_sz {k : Nat} (ht : tc ≤ 8) (hk : k < pw tc) (hz : zz U Z nc k = true) : ¬ bc (nI k) < bc ((spx (fun k => zz U Z nc k) (pw tc)).1) := by
  have hpw := pw_in ht
  obtain ⟨m, h1, h2, -, h4⟩ := smp_k ht hk hz
  have a1 := pc_le m
  have a2 := pc_le k
  rw [h2, bc_pc k (by omega), bc_pc m (by omega), nI_ltI (by omega) (by omega)]
  omega
theorem D_sm {k : Nat} (ht : tc ≤ 8) (hk : k < pw tc) (hz : zz U Z nc k = true) (he : bc (nI k) = bc ((spx (fun k => zz U Z nc k) (pw tc)).1)) : (spx (fun k => zz U Z nc k) (pw tc)).1 ≤ nI k := by
  have hpw := pw_in ht
  obtain ⟨m, h1, h2, -, h4⟩ := smp_k ht hk hz
  have a1 := pc_le m
  have a2 := pc_le k
  rw [h2, bc_pc k (by omega), bc_pc m (by omega), nI_eq (by omega) (by omega)] at he
  rw [h2]
  exact nI_le (by omega) (by omega)
theorem many_any : (0 < ct (fun k => zz U Z nc k) (pw tc)) ↔ anyb (fun k => zz U Z nc k) (pw tc) = true := ct_any
theorem ag_smp (hn : nc ≤ 40) (ht : tc ≤ 8) : bI (decide (mnf (mis U Z nc) (nI nc) (pw tc) = 0)) = bI (decide (¬ (spx (fun k => zz U Z nc k) (pw tc)).1 < 0)) := by
  have hpw := pw_in ht
  rw [ag_any U Z hn hpw.1]
  congr 1
  rcases spx_best (fun k => zz U Z nc k) (pw tc) hpw.2 with ⟨e, h⟩ | ⟨m, h1, h2, h3, h4⟩
  · rw [anyb_non h, e]; decide
  · rw [anyb_of (p := fun k => zz U Z nc k) h3 (pw tc) h1, h2]
    exact (decide_eq_true (nI_pos (by omega))).symm
theorem ag_sue (hn : nc ≤ 40) (ht : tc ≤ 8) : bI (decide (mnf (mis U Z nc) (nI nc) (pw tc) = 0)) = bI (decide (¬ suX U Z nc tc < 0)) := by
  have hpw := pw_in ht
  have h := su_sur U Z hn ht
  unfold suX
  rw [h, ag_any U Z hn hpw.1]
  congr 1
  unfold sur
  cases ha : anyb (fun k => zz U Z nc k) (pw tc) with
  | true =>
    have h1 := ct_any.mpr ha
    have h2 := bs_lt (fun t => decide (nI (ct (fun j => ho (nI (el (fun k => zz U Z nc k) (pw tc) j)) (nI t)) (ct (fun k => zz U Z nc k) (pw tc))) = nI (ct (fun k => zz U Z nc k) (pw tc)))) tc
    have h3 : 2 ^ tc ≤ 256 := hpw.2
    rw [if_neg (by omega)]
    exact (decide_eq_true (nI_pos (by omega))).symm
  | false =>
    have h1 : ct (fun k => zz U Z nc k) (pw tc) = 0 := by
      rcases Nat.eq_zero_or_pos (ct (fun k => zz U Z nc k) (pw tc)) with z | z
      · exact z
      · rw [ct_any.mp z] at ha; cases ha
    rw [if_pos h1]; decide
theorem doubt_le (hn : nc ≤ 40) (N : Nat) : mnf (mis U Z nc) (nI nc) N ≤ nI nc := by
  have e : mnf (mis U Z nc) (nI nc) N = nI (mnN (fun k => un U Z (nI k) nc) nc N) := mnf_nI hn (fun k => Nat.le_trans (un_le U Z (nI k) nc) hn) N
  rw [e]
  exact nI_le (mnN_le _ _ N) (by omega)
theorem sw_bit (t N : Nat) : nI (ct (fun k => zz U Z nc k && ho (nI k) (nI t)) N) = nI (mt U Z nc N ((1 : Int32) <<< (nI t &&& 31))) := by
  congr 1
  exact ct_cong N (fun k _ => by
    show (zz U Z nc k && ho (nI k) (nI t)) = (decide (¬ nI k &&& ((1 : Int32) <<< (nI t &&& 31)) = 0) && zz U Z nc k)
    rw [Bool.and_comm]; rfl)
theorem sue_bit {t : Nat} (hn : nc ≤ 40) (hc : tc ≤ 8) (ht : t < tc) (h0 : ¬ nI (ct (fun k => zz U Z nc k) (pw tc)) ≤ 0) : bI (ho (suX U Z nc tc) (nI t)) = bI (decide (nI (ct (fun k => zz U Z nc k && ho (nI k) (nI t)) (pw tc)) = nI (ct (fun k => zz U Z nc k) (pw tc)))) := by
  have h := su_sur U Z hn hc
  unfold suX
  rw [h, ho_gb (by omega)]
  unfold sur
  rw [if_neg (fun w => h0 (by rw [w]; decide)), gb_bs (by omega), decide_eq_true ht, Bool.true_and, ct_el (fun k => zz U Z nc k) (fun k => ho (nI k) (nI t))]
theorem vote_bit {B : Nat → Int32} {ac t : Nat} (hc : tc ≤ 8) (ht : t < tc) : bI (ho (orf (fun t => decide (¬ nI (ct (fun a => ho (B a) (nI t)) ac) * 2 ≤ nI ac)) fW tc) (nI t)) = bI (decide (¬ 2 * nI (ct (fun a => ho (B a) (nI t)) ac) ≤ nI ac)) := by
  rw [ho_gb (by omega), gb_orf _ t (by omega) tc (by omega), decide_eq_true ht, Bool.true_and, Int32.mul_comm]
/-- the best night -/
theorem bn_best {f : Nat → Int32} (hf : ∀ k, f k < 257) : ∀ n, ∃ i, 1 ≤ i ∧ i ≤ n + 1 ∧ bn f (n + 1) = (nI i, f i) ∧ ∀ j, 1 ≤ j → j ≤ n + 1 → ¬ f j < f i
  | 0 => ⟨1, Nat.le_refl _, Nat.le_refl _, if_pos (hf 1), fun j h1 h2 => by rw [show j = 1 by omega]; exact Int32.lt_irrefl⟩
  | n + 1 => by
    obtain ⟨i, h1, h2, h3, h4⟩ := bn_best hf n
    by_cases hc : f (n + 2) < f i
    · have e1 : bn f (n + 2) = (nI (n + 2), f (n + 2)) := if_pos (by rw [h3]; exact hc)
      refine ⟨n + 2, by omega, Nat.le_refl _, e1, fun j g1 g2 => ?_⟩
      by_cases e : j = n + 2
      · rw [e]; exact Int32.lt_irrefl
      · exact fun w => h4 j g1 (by omega) (Int32.lt_trans w hc)
    · have e1 : bn f (n + 2) = bn f (n + 1) := if_neg (by rw [h3]; exact hc)
      refine ⟨i, h1, by omega, e1.trans h3, fun j g1 g2 => ?_⟩
      by_cases e : j = n + 2
      · rw [e]; exact hc
      · exact h4 j g1 (by omega)
theorem best_k (ht : tc ≤ 8) (h1 : 1 ≤ tc) : ∃ i, 1 ≤ i ∧ i < pw tc ∧ (bn (lf U Z nc (pw tc)) (pw tc - 1)).1 = nI i ∧ ∀ j, 1 ≤ j → j < pw tc → ¬ lf U Z nc (pw tc) j < lf U Z nc (pw tc) i := by
  have hpw := pw_in ht
  have h2 : 2 ≤ pw tc := pw_mono h1
  have hf : ∀ k, lf U Z nc (pw tc) k < 257 := by
    intro k
    have h1 := mt_le U Z nc (pw tc) (nI k)
    have h2 : ex U Z nc (pw tc) ≤ pw tc := ct_le _ _
    unfold lf mx
    rw [pk_sub h1]
    split
    · exact nI_lt (b := 257) (by omega) (by decide)
    · exact nI_lt (b := 257) (by omega) (by decide)
  obtain ⟨i, g1, g2, g3, g4⟩ := bn_best hf (pw tc - 2)
  rw [show pw tc - 2 + 1 = pw tc - 1 by omega] at g2 g3 g4
  exact ⟨i, g1, by omega, by rw [g3], fun j j1 j2 => g4 j j1 (by omega)⟩
/-- one night more: how many change, what explains -/
theorem e_any (hn : nc < 40) (ht : tc ≤ 8) (u : Int32) (z : Bool) : decide (¬ (spx (fun j => zz (upd U nc u) (updB Z nc z) (nc + 1) j) (pw tc)).1 = -1) = anyb (fun j => zz U Z nc j && sx (nI j) u z) (pw tc) := by
  have hpw := pw_in ht
  have e : (fun j => zz (upd U nc u) (updB Z nc z) (nc + 1) j) = fun j => zz U Z nc j && sx (nI j) u z := by
    funext j
    exact zz_add U Z hn u z j
  rw [e]
  rcases spx_best (fun j => zz U Z nc j && sx (nI j) u z) (pw tc) hpw.2 with ⟨e2, h⟩ | ⟨m, h1, h2, h3, h4⟩
  · rw [anyb_non h, e2]; decide
  · rw [anyb_of (p := fun j => zz U Z nc j && sx (nI j) u z) h3 (pw tc) h1, h2]
    exact decide_eq_true (nI_m1 m (by omega))
theorem wc_sC {B L : Nat → Int32} {ac : Nat} (hn : nc < 40) (ht : tc ≤ 8) (hL : ∀ a, ∃ k, k ≤ 5 ∧ L a = nI k) (u : Int32) (z : Bool) : (if anyb (fun j => zz U Z nc j && sx (nI j) u z) (pw tc) = true then nI (ct (fun a => !(sx (B a) u z) && decide (L a = 0)) ac) else 0) = nI (ct (sC B L u z ((spx (fun j => zz (upd U nc u) (updB Z nc z) (nc + 1) j) (pw tc)).1)) ac) := by
  have h := e_any (U := U) (Z := Z) hn ht u z
  have hl : ∀ a, decide (L a ≤ 0) = decide (L a = 0) := fun a => by
    obtain ⟨k, hk, e⟩ := hL a
    rw [e]
    rcases (show k = 0 ∨ k = 1 ∨ k = 2 ∨ k = 3 ∨ k = 4 ∨ k = 5 by omega) with rfl | rfl | rfl | rfl | rfl | rfl <;> decide
  have hs : ∀ a, sC B L u z ((spx (fun j => zz (upd U nc u) (updB Z nc z) (nc + 1) j) (pw tc)).1) a = (!(sx (B a) u z) && decide (L a = 0) && anyb (fun j => zz U Z nc j && sx (nI j) u z) (pw tc)) := fun a => by
    unfold sC
    rw [h, hl a]
  rw [ct_cong (p := sC B L u z ((spx (fun j => zz (upd U nc u) (updB Z nc z) (nc + 1) j) (pw tc)).1)) ac (fun a _ => hs a)]
  cases anyb (fun j => zz U Z nc j && sx (nI j) u z) (pw tc) with
  | true =>
    rw [if_pos rfl]
    congr 1
    exact ct_cong ac (fun a _ => by rw [Bool.and_true])
  | false =>
    rw [if_neg (by decide)]
    have e1 : ∀ m, ct (fun a => !(sx (B a) u z) && decide (L a = 0) && false) m = 0 := fun m => by
      induction m with
      | zero => rfl
      | succ m ih => rw [ct_s, ih, Bool.and_false]; rfl
    rw [e1]; rfl
theorem ex_t (hn : nc < 40) (k : Nat) (N : Nat) : nI (ex (upd U nc (nI k)) (updB Z nc true) (nc + 1) N) = nI (mt U Z nc N (nI k)) := by
  congr 1
  exact ct_cong N (fun j _ => by
    show zz (upd U nc (nI k)) (updB Z nc true) (nc + 1) j = (decide (¬ nI j &&& nI k = 0) && zz U Z nc j)
    rw [zz_add U Z hn, Bool.and_comm]
    unfold sx
    cases decide (¬ nI j &&& nI k = 0) <;> rfl)
theorem ex_f (hn : nc < 40) (k : Nat) (N : Nat) : nI (ex (upd U nc (nI k)) (updB Z nc false) (nc + 1) N) = nI (ct (fun k => zz U Z nc k) N) - nI (mt U Z nc N (nI k)) := by
  have h1 := ct_split (fun j => zz U Z nc j) (fun j => decide (¬ nI j &&& nI k = 0)) N
  have h2 : ct (fun j => decide (¬ nI j &&& nI k = 0) && zz U Z nc j) N = mt U Z nc N (nI k) := rfl
  rw [h2] at h1
  rw [pk_sub (by omega), h1, Nat.add_sub_cancel_left]
  congr 1
  exact ct_cong N (fun j _ => by
    show zz (upd U nc (nI k)) (updB Z nc false) (nc + 1) j = (!(decide (¬ nI j &&& nI k = 0)) && zz U Z nc j)
    rw [zz_add U Z hn, Bool.and_comm]
    unfold sx
    cases decide (¬ nI j &&& nI k = 0) <;> rfl)
/-- who changes, and who not -/
theorem ch_a {B L : Nat → Int32} {u e : Int32} {z : Bool} {a : Nat} (h : ¬ sB B L u z e a = B a) : sx (B a) u z = false ∧ L a ≤ 0 ∧ ¬ e = -1 ∧ sB B L u z e a = e := by
  unfold sB at h ⊢
  by_cases h1 : sx (B a) u z = true
  · rw [if_pos h1] at h; exact absurd rfl h
  · by_cases h2 : ¬ L a ≤ 0
    · rw [if_neg h1, if_pos h2] at h; exact absurd rfl h
    · by_cases h3 : e = -1
      · rw [if_neg h1, if_neg h2, if_pos h3] at h; exact absurd rfl h
      · rw [if_neg h1, if_neg h2, if_neg h3]
        exact ⟨tf_f h1, Decidable.of_not_not h2, h3, rfl⟩
theorem e_sx {u : Int32} {z : Bool} (hn : nc < 40) (ht : tc ≤ 8) (h : ¬ (spx (fun j => zz (upd U nc u) (updB Z nc z) (nc + 1) j) (pw tc)).1 = -1) : ∃ m, m < pw tc ∧ (spx (fun j => zz (upd U nc u) (updB Z nc z) (nc + 1) j) (pw tc)).1 = nI m ∧ zz (upd U nc u) (updB Z nc z) (nc + 1) m = true ∧ sx (nI m) u z = true := by
  have hpw := pw_in ht
  rcases spx_best (fun j => zz (upd U nc u) (updB Z nc z) (nc + 1) j) (pw tc) hpw.2 with ⟨e2, -⟩ | ⟨m, h1, h2, h3, h4⟩
  · exact absurd e2 h
  · have h5 : zz (upd U nc u) (updB Z nc z) (nc + 1) m = true := h3
    have h6 := h5
    rw [zz_add U Z hn, Bool.and_eq_true] at h6
    exact ⟨m, h1, h2, h5, h6.2⟩
theorem ch_s {B L : Nat → Int32} {u : Int32} {z : Bool} {a : Nat} (hn : nc < 40) (ht : tc ≤ 8) (h : sB B L u z ((spx (fun j => zz (upd U nc u) (updB Z nc z) (nc + 1) j) (pw tc)).1) a = B a) : sC B L u z ((spx (fun j => zz (upd U nc u) (updB Z nc z) (nc + 1) j) (pw tc)).1) a = false := by
  cases hs : sC B L u z ((spx (fun j => zz (upd U nc u) (updB Z nc z) (nc + 1) j) (pw tc)).1) a with
  | false => rfl
  | true =>
    exfalso
    unfold sC at hs
    rw [Bool.and_eq_true, Bool.and_eq_true] at hs
    have h1 : sx (B a) u z = false := by
      have := hs.1.1
      cases hq : sx (B a) u z
      · rfl
      · rw [hq] at this; cases this
    have h2 := of_decide_eq_true hs.1.2
    have h3 := of_decide_eq_true hs.2
    obtain ⟨m, -, e, -, h5⟩ := e_sx hn ht h3
    unfold sB at h
    rw [if_neg (by rw [h1]; decide), if_neg (fun w => w h2), if_neg h3, e] at h
    rw [← h, h5] at h1
    cases h1
theorem ch_t {B L : Nat → Int32} {u e : Int32} {z : Bool} {a : Nat} (h : ¬ sB B L u z e a = B a) : sC B L u z e a = true := by
  obtain ⟨h1, h2, h3, -⟩ := ch_a h
  exact sC_d h1 h2 h3
theorem ch_un {B L : Nat → Int32} {u : Int32} {z : Bool} {a : Nat} (hn : nc < 40) (ht : tc ≤ 8) (h : ¬ sB B L u z ((spx (fun j => zz (upd U nc u) (updB Z nc z) (nc + 1) j) (pw tc)).1) a = B a) : nI (un (upd U nc u) (updB Z nc z) (sB B L u z ((spx (fun j => zz (upd U nc u) (updB Z nc z) (nc + 1) j) (pw tc)).1) a) (nc + 1)) = 0 := by
  obtain ⟨-, -, h3, h4⟩ := ch_a h
  obtain ⟨m, -, e, h5, -⟩ := e_sx hn ht h3
  rw [h4, e, (zz_iff (by omega)).mp h5]; rfl
theorem ch_u2 {s u : Int32} {z : Bool} : nI (un (upd U nc u) (updB Z nc z) s (nc + 1)) = nI (un U Z s nc) + bI (!(sx s u z)) := by
  rw [un_add]
  cases sx s u z
  · exact (nI_1 _).symm
  · exact (Int32.add_zero _).symm
theorem ch_l1 {B L F : Nat → Int32} {u e : Int32} {z : Bool} {a : Nat} (h : sx (B a) u z = true) : sL B L F u z e a = L a := if_pos h
theorem ch_l0 {B L F : Nat → Int32} {u : Int32} {z : Bool} {a : Nat} (hn : nc < 40) (ht : tc ≤ 8) (hL : ∃ k, k ≤ 5 ∧ L a = nI k) (h : sx (B a) u z = false) (he : sB B L u z ((spx (fun j => zz (upd U nc u) (updB Z nc z) (nc + 1) j) (pw tc)).1) a = B a) : sL B L F u z ((spx (fun j => zz (upd U nc u) (updB Z nc z) (nc + 1) j) (pw tc)).1) a = (if 0 < L a - 1 then L a - 1 else 0) := by
  have hc := ch_s hn ht he
  unfold sC at hc
  unfold sL
  rw [h] at hc
  rw [if_neg (by rw [h]; decide)]
  obtain ⟨k, hk, e⟩ := hL
  rw [e] at hc ⊢
  by_cases h2 : ¬ nI k ≤ 0
  · rw [if_pos h2]
    rcases (show k = 0 ∨ k = 1 ∨ k = 2 ∨ k = 3 ∨ k = 4 ∨ k = 5 by omega) with rfl | rfl | rfl | rfl | rfl | rfl
    · exact absurd (by decide) h2
    all_goals decide
  · have h3 : nI k ≤ 0 := Decidable.of_not_not h2
    rw [if_neg h2]
    rw [decide_eq_true h3] at hc
    have h4 : (spx (fun j => zz (upd U nc u) (updB Z nc z) (nc + 1) j) (pw tc)).1 = -1 := by
      refine Classical.byContradiction (fun w => ?_)
      rw [decide_eq_true (p := ¬ _ = _) w] at hc
      cases hc
    rw [if_pos h4]
    rcases (show k = 0 ∨ k = 1 ∨ k = 2 ∨ k = 3 ∨ k = 4 ∨ k = 5 by omega) with rfl | rfl | rfl | rfl | rfl | rfl
    · decide
    all_goals exact absurd h3 (by decide)
theorem mrg_lt {α : Type} {f g : Nat → α} {n i : Nat} (h : i < n) : mrg f g n i = f i := if_pos h
theorem sx_be (x : Int32) (z : Bool) {s u : Int32} (hx : x = s &&& u) : bI (decide (bI (!(decide (x = 0))) = bI z)) = bI (sx s u z) := by
  subst hx
  unfold sx
  have e : (!(decide (s &&& u = 0))) = decide (¬ s &&& u = 0) := by
    by_cases h : s &&& u = 0
    · rw [decide_eq_true h, decide_eq_false (fun w => w h)]; rfl
    · rw [decide_eq_false h, decide_eq_true h]; rfl
  rw [e]
  cases decide (¬ s &&& u = 0) <;> cases z <;> decide
theorem un_big {s : Int32} (hn : nc ≤ 40) : ¬ nI nc < nI (un U Z s nc) := nI_nlt (un_le U Z s nc) (by omega)
end ST
end LPURE
