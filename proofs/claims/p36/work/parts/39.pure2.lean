/-! ===== the class's numbers are the reference's: pure ===== -/
section PURE2
theorem pf_sl : ∀ n, n < 32 → ((nI n &&& 31).toBitVec.smod 32).toNat = n := by decide +kernel
theorem pf_sh : ∀ l, l < 32 → ((1 : Int32) <<< (nI l &&& 31)).toBitVec = BitVec.twoPow 32 l := by decide +kernel
theorem pf_tp : ∀ l, l < 32 → BitVec.twoPow 32 l ≠ 0#32 := by decide +kernel
theorem ho_iff {j : Nat} (hj : j < 32) (s : Int32) : (s &&& ((1 : Int32) <<< (nI j &&& 31)) = 0) ↔ s.toBitVec.getLsbD j = false := by
  rw [← Int32.toBitVec_inj, Int32.toBitVec_and, pf_sh j hj, BitVec.and_twoPow]
  cases hb : s.toBitVec.getLsbD j
  · exact ⟨fun _ => rfl, fun _ => by rfl⟩
  · exact ⟨fun z => absurd ((if_pos rfl).symm.trans z) (pf_tp j hj), fun z => by cases z⟩
theorem hs_iff {j : Nat} (hj : j < 32) (s : Int32) : ((s >>> (nI j &&& 31)) &&& 1 = 1) ↔ s.toBitVec.getLsbD j = true := by
  have e : (s >>> (nI j &&& 31)).toBitVec.getLsbD 0 = s.toBitVec.getLsbD j := by
    rw [Int32.toBitVec_shiftRight]
    show (s.toBitVec.sshiftRight ((nI j &&& 31).toBitVec.smod 32).toNat).getLsbD 0 = _
    rw [pf_sl j hj, BitVec.getLsbD_sshiftRight]
    simp [hj]
  rw [← Int32.toBitVec_inj, Int32.toBitVec_and]
  show (s >>> (nI j &&& 31)).toBitVec &&& 1#32 = 1#32 ↔ _
  rw [BitVec.and_one_eq_setWidth_ofBool_getLsbD, e]
  cases s.toBitVec.getLsbD j <;> decide
theorem ho_hs {j : Nat} (hj : j < 32) (s : Int32) : ho s (nI j) = hs s (nI j) := by
  unfold ho hs
  cases hb : s.toBitVec.getLsbD j
  · rw [decide_eq_false (fun w => w ((ho_iff hj s).mpr hb)), decide_eq_false (fun w => by rw [hs_iff hj s, hb] at w; cases w)]
  · rw [decide_eq_true (p := ¬ s &&& ((1 : Int32) <<< (nI j &&& 31)) = 0) (fun w => by rw [ho_iff hj s, hb] at w; cases w), decide_eq_true ((hs_iff hj s).mpr hb)]
section CONG
variable {U V : Nat → Int32} {Z Y : Nat → Bool} {n : Nat}
theorem mis_cong (hu : ∀ j, j < n → V j = U j) (hz : ∀ j, j < n → Y j = Z j) : mis V Y n = mis U Z n := by
  funext k
  show nI (un V Y (nI k) n) = nI (un U Z (nI k) n)
  rw [un_cong hu hz]
theorem zzf_cong (hu : ∀ j, j < n → V j = U j) (hz : ∀ j, j < n → Y j = Z j) : (fun k => zz V Y n k) = fun k => zz U Z n k := by
  funext k
  exact zz_cong hu hz k
theorem ex_cong (hu : ∀ j, j < n → V j = U j) (hz : ∀ j, j < n → Y j = Z j) (N : Nat) : ex V Y n N = ex U Z n N := ct_cong N (fun k _ => zz_cong hu hz k)
theorem mt_cong (hu : ∀ j, j < n → V j = U j) (hz : ∀ j, j < n → Y j = Z j) (N : Nat) (u : Int32) : mt V Y n N u = mt U Z n N u := ct_cong N (fun k _ => by
  show (decide (¬ nI k &&& u = 0) && zz V Y n k) = (decide (¬ nI k &&& u = 0) && zz U Z n k)
  rw [zz_cong hu hz])
theorem cld_cong (hu : ∀ j, j < n → V j = U j) (hz : ∀ j, j < n → Y j = Z j) : cld V Y n = cld U Z n := orf_cong n (fun k hk => by
  show (!(Y k)) = !(Z k)
  rw [hz k hk]) hu
theorem lf_cong (hu : ∀ j, j < n → V j = U j) (hz : ∀ j, j < n → Y j = Z j) (N : Nat) : lf V Y n N = lf U Z n N := by
  funext k
  unfold lf
  rw [mt_cong hu hz, ex_cong hu hz]
theorem nw_eq (hu : ∀ j, j < n → V j = U j) (hz : ∀ j, j < n → Y j = Z j) {t : Nat} (ht : t < 32) : ct (fun j => hs (V j) (nI t) && (Y j || !false)) n = ct (fun j => ho (U j) (nI t)) n := ct_cong n (fun k hk => by
  show (hs (V k) (nI t) && (Y k || !false)) = ho (U k) (nI t)
  rw [hu k hk, ho_hs ht, Bool.not_false, Bool.or_true, Bool.and_true])
theorem sw_eq (hu : ∀ j, j < n → V j = U j) (hz : ∀ j, j < n → Y j = Z j) {t : Nat} (ht : t < 32) : ct (fun j => hs (V j) (nI t) && (Y j || !true)) n = ct (fun j => Z j && ho (U j) (nI t)) n := ct_cong n (fun k hk => by
  show (hs (V k) (nI t) && (Y k || !true)) = (Z k && ho (U k) (nI t))
  rw [hu k hk, hz k hk, ho_hs ht, Bool.not_true, Bool.or_false, Bool.and_comm])
theorem cl_eq (hu : ∀ j, j < n → V j = U j) (hz : ∀ j, j < n → Y j = Z j) {t : Nat} (ht : t < 32) : hs (cld V Y n) (nI t) = ho (cld U Z n) (nI t) := by rw [cld_cong hu hz, ho_hs ht]
theorem orx (a b : Int32) : ((a ||| b) ^^^ (-1)) = ((a ^^^ (-1)) &&& (b ^^^ (-1))) := by
  apply Int32.toBitVec_inj.mp
  rw [Int32.toBitVec_xor, Int32.toBitVec_or, Int32.toBitVec_and, Int32.toBitVec_xor, Int32.toBitVec_xor]
  apply BitVec.eq_of_getLsbD_eq
  intro i hi
  rw [BitVec.getLsbD_xor, BitVec.getLsbD_or, BitVec.getLsbD_and, BitVec.getLsbD_xor, BitVec.getLsbD_xor]
  have h1 : ∀ i, i < 32 → (-1 : Int32).toBitVec.getLsbD i = true := by decide +kernel
  rw [h1 i hi]
  cases a.toBitVec.getLsbD i <;> cases b.toBitVec.getLsbD i <;> rfl
theorem pv_eq (hu : ∀ j, j < n → V j = U j) (hz : ∀ j, j < n → Y j = Z j) {t : Nat} (ht : t < 32) : anyb (fun j => Y j && hs (V j) (nI t) && decide (V j &&& ((cld V Y n ^^^ (-1)) &&& (((1 : Int32) <<< (nI t &&& 31)) ^^^ (-1))) = 0)) n = anyb (fun j => Z j && ho (U j) (nI t) && decide (U j &&& ((cld U Z n ||| ((1 : Int32) <<< (nI t &&& 31))) ^^^ (-1)) = 0)) n := anyb_cong n (fun k hk => by
  show (Y k && hs (V k) (nI t) && decide (V k &&& ((cld V Y n ^^^ (-1)) &&& (((1 : Int32) <<< (nI t &&& 31)) ^^^ (-1))) = 0)) = (Z k && ho (U k) (nI t) && decide (U k &&& ((cld U Z n ||| ((1 : Int32) <<< (nI t &&& 31))) ^^^ (-1)) = 0))
  rw [hu k hk, hz k hk, cld_cong hu hz, ho_hs ht, orx])
theorem st_eq (hu : ∀ j, j < n → V j = U j) (hz : ∀ j, j < n → Y j = Z j) {t : Nat} (ht : t < 32) (N : Nat) : ct (fun k => hs (nI k) (nI t) && zz V Y n k) N = mt U Z n N ((1 : Int32) <<< (nI t &&& 31)) := ct_cong N (fun k _ => by
  show (hs (nI k) (nI t) && zz V Y n k) = (decide (¬ nI k &&& ((1 : Int32) <<< (nI t &&& 31)) = 0) && zz U Z n k)
  rw [zz_cong hu hz, ← ho_hs ht]
  rfl)
end CONG
theorem vt_eq (B : Nat → Int32) {t : Nat} (ht : t < 32) (n : Nat) : ct (fun a => hs (B a) (nI t)) n = ct (fun a => ho (B a) (nI t)) n := ct_cong n (fun k _ => (ho_hs ht (B k)).symm)
theorem vo_eq (B : Nat → Int32) (ac : Nat) {tc : Nat} (ht : tc ≤ 32) : orf (fun t => decide (¬ 2 * nI (ct (fun a => hs (B a) (nI t)) ac) ≤ nI ac)) (fun t => (1 : Int32) <<< (nI t &&& 31)) tc = orf (fun t => decide (¬ nI (ct (fun a => ho (B a) (nI t)) ac) * 2 ≤ nI ac)) (fun t => (1 : Int32) <<< (nI t &&& 31)) tc := orf_cong tc (fun k hk => by
  show decide (¬ 2 * nI (ct (fun a => hs (B a) (nI k)) ac) ≤ nI ac) = decide (¬ nI (ct (fun a => ho (B a) (nI k)) ac) * 2 ≤ nI ac)
  rw [vt_eq B (by omega), Int32.mul_comm]) (fun _ _ => rfl)
theorem bc9 : ∀ n, n < 256 → bc (nI n) < 9 := by decide +kernel
theorem nI_m1 : ∀ n, n < 257 → ¬ nI n = -1 := by decide +kernel
theorem spx_smm (p : Nat → Bool) : ∀ n, n ≤ 256 → smm p n = (spx p n).1 ∧ ((spx p n).1 = -1 → (spx p n).2 = 9) ∧ (¬ (spx p n).1 = -1 → (spx p n).2 = bc (spx p n).1)
  | 0, _ => ⟨rfl, fun _ => rfl, fun h => absurd rfl h⟩
  | n + 1, h => by
    obtain ⟨h1, h2, h3⟩ := spx_smm p n (by omega)
    by_cases hp : p n = true
    · by_cases hm : (spx p n).1 = -1
      · have e : spx p (n + 1) = (nI n, bc (nI n)) := spx_t hp (by rw [h2 hm]; exact Int32.not_le.mpr (bc9 n (by omega)))
        rw [e, ← smm_a hp (h1.trans hm)]
        exact ⟨rfl, fun w => absurd w (nI_m1 n (by omega)), fun _ => rfl⟩
      · by_cases hb : (spx p n).2 ≤ bc (nI n)
        · rw [spx_g hb, ← smm_g (by rw [h1]; exact hm) (by rw [h1, ← h3 hm]; exact hb)]
          exact ⟨h1, h2, h3⟩
        · have e : spx p (n + 1) = (nI n, bc (nI n)) := spx_t hp hb
          rw [e, ← smm_b hp (by rw [h1, ← h3 hm]; exact hb)]
          exact ⟨rfl, fun w => absurd w (nI_m1 n (by omega)), fun _ => rfl⟩
    · have hf : p n = false := by cases hq : p n with
        | false => rfl
        | true => exact absurd hq hp
      rw [spx_f hf, ← smm_f hf]
      exact ⟨h1, h2, h3⟩
theorem sim_eq {p : Nat → Bool} {N : Nat} (h : N ≤ 256) : smm p N = (spx p N).1 := (spx_smm p N h).1
/-- none below n has p, just if the search finds none; else it finds one -/
theorem smm_any (p : Nat → Bool) : ∀ n, n ≤ 256 → (decide (smm p n = -1) = !(anyb p n)) ∧ (¬ smm p n = -1 → ∃ k, k < n ∧ smm p n = nI k)
  | 0, _ => ⟨rfl, fun h => absurd rfl h⟩
  | n + 1, h => by
    obtain ⟨h1, h2⟩ := smm_any p n (by omega)
    have hs : anyb p (n + 1) = (anyb p n || p n) := rfl
    by_cases hp : p n = true
    · have key : smm p (n + 1) = nI n ∨ (¬ smm p n = -1 ∧ smm p (n + 1) = smm p n) := by
        by_cases hm : smm p n = -1
        · exact Or.inl (smm_a hp hm).symm
        · by_cases hb : bc (smm p n) ≤ bc (nI n)
          · exact Or.inr ⟨hm, (smm_g hm hb).symm⟩
          · exact Or.inl (smm_b hp hb).symm
      rw [hs, hp, Bool.or_true]
      rcases key with e | ⟨hm, e⟩
      · rw [e]
        exact ⟨decide_eq_false (nI_m1 n (by omega)), fun _ => ⟨n, by omega, rfl⟩⟩
      · rw [e]
        obtain ⟨k, hk, e2⟩ := h2 hm
        exact ⟨decide_eq_false hm, fun _ => ⟨k, by omega, e2⟩⟩
    · have hf : p n = false := by cases hq : p n with
        | false => rfl
        | true => exact absurd hq hp
      rw [hs, hf, Bool.or_false, ← smm_f hf]
      exact ⟨h1, fun hm => by obtain ⟨k, hk, e2⟩ := h2 hm; exact ⟨k, by omega, e2⟩⟩
theorem anyb_ex {p : Nat → Bool} : ∀ {n : Nat}, anyb p n = true → ∃ k, k < n ∧ p k = true
  | 0, h => by cases h
  | n + 1, h => by
    have h : (anyb p n || p n) = true := h
    rw [Bool.or_eq_true] at h
    rcases h with h | h
    · obtain ⟨k, hk, e⟩ := anyb_ex h
      exact ⟨k, by omega, e⟩
    · exact ⟨n, by omega, h⟩
/-- the least of whole numbers -/
def mnN (g : Nat → Nat) (x0 : Nat) : Nat → Nat
  | 0 => x0
  | n + 1 => if g n < mnN g x0 n then g n else mnN g x0 n
theorem mnN_le (g : Nat → Nat) (x0 : Nat) : ∀ n, mnN g x0 n ≤ x0
  | 0 => Nat.le_refl _
  | n + 1 => by
    have h := mnN_le g x0 n
    show (if g n < mnN g x0 n then g n else mnN g x0 n) ≤ x0
    split <;> omega
theorem mnf_nI {g : Nat → Nat} {x0 : Nat} (hx : x0 ≤ 40) (hg : ∀ k, g k ≤ 40) : ∀ n, mnf (fun k => nI (g k)) (nI x0) n = nI (mnN g x0 n)
  | 0 => rfl
  | n + 1 => by
    have h := mnN_le g x0 n
    rw [← mnf_s, mnf_nI hx hg n]
    show (if nI (g n) < nI (mnN g x0 n) then nI (g n) else nI (mnN g x0 n)) = nI (if g n < mnN g x0 n then g n else mnN g x0 n)
    have h2 := hg n
    by_cases hc : g n < mnN g x0 n
    · rw [if_pos hc, if_pos (nI_lt hc (by omega))]
    · rw [if_neg hc, if_neg (nI_nlt (by omega) (by omega))]
theorem mnN_0 (g : Nat → Nat) (x0 : Nat) : ∀ n, mnN g x0 n = 0 ↔ x0 = 0 ∨ ∃ k, k < n ∧ g k = 0
  | 0 => ⟨fun h => Or.inl h, fun h => h.elim (fun w => w) (fun ⟨k, hk, _⟩ => absurd hk (Nat.not_lt_zero k))⟩
  | n + 1 => by
    have ih := mnN_0 g x0 n
    show (if g n < mnN g x0 n then g n else mnN g x0 n) = 0 ↔ _
    constructor
    · intro h
      by_cases hc : g n < mnN g x0 n
      · rw [if_pos hc] at h
        exact Or.inr ⟨n, by omega, h⟩
      · rw [if_neg hc] at h
        rcases ih.mp h with w | ⟨k, hk, e⟩
        · exact Or.inl w
        · exact Or.inr ⟨k, by omega, e⟩
    · intro h
      have h0 : g n = 0 ∨ mnN g x0 n = 0 := by
        rcases h with w | ⟨k, hk, e⟩
        · exact Or.inr (ih.mpr (Or.inl w))
        · rcases Nat.lt_or_ge k n with z | z
          · exact Or.inr (ih.mpr (Or.inr ⟨k, z, e⟩))
          · rw [show k = n by omega] at e
            exact Or.inl e
      by_cases hc : g n < mnN g x0 n
      · rw [if_pos hc]; omega
      · rw [if_neg hc]; omega
theorem ag_any (U : Nat → Int32) (Z : Nat → Bool) {n N : Nat} (hn : n ≤ 40) (hN : 1 ≤ N) : decide (mnf (mis U Z n) (nI n) N = 0) = anyb (fun k => zz U Z n k) N := by
  have e : mnf (mis U Z n) (nI n) N = nI (mnN (fun k => un U Z (nI k) n) n N) := mnf_nI hn (fun k => Nat.le_trans (un_le U Z (nI k) n) hn) N
  have hb := mnN_le (fun k => un U Z (nI k) n) n N
  rw [e]
  cases ha : anyb (fun k => zz U Z n k) N with
  | true =>
    obtain ⟨k, hk, h⟩ := anyb_ex ha
    refine decide_eq_true ?_
    rw [← nI_0, nI_eq (by omega) (by omega), mnN_0]
    exact Or.inr ⟨k, hk, (zz_iff hn).mp h⟩
  | false =>
    refine decide_eq_false (fun h => ?_)
    rw [← nI_0, nI_eq (by omega) (by omega), mnN_0] at h
    have hx : ∃ k, k < N ∧ un U Z (nI k) n = 0 := by
      rcases h with w | w
      · exact ⟨0, by omega, by have := un_le U Z (nI 0) n; omega⟩
      · exact w
    obtain ⟨k, hk, h⟩ := hx
    have h2 := anyb_of (p := fun k => zz U Z n k) (i := k) ((zz_iff hn).mpr h) N hk
    rw [ha] at h2
    cases h2
theorem ag_eq (U : Nat → Int32) (Z : Nat → Bool) {n N : Nat} (hn : n ≤ 40) (hN : 1 ≤ N) (hN2 : N ≤ 256) : decide (mnf (mis U Z n) (nI n) N = 0) = !(decide (smm (fun k => zz U Z n k) N = -1)) := by
  rw [ag_any U Z hn hN, (smm_any (fun k => zz U Z n k) N hN2).1, Bool.not_not]
/-- sets met -/
theorem and_c (a b : Int32) : a &&& b = b &&& a := Int32.and_comm a b
theorem anf_and (p : Nat → Bool) (x0 : Int32) : ∀ n, anf p x0 n = x0 &&& anf p (-1) n
  | 0 => by
    show x0 = x0 &&& (-1)
    rw [and_c, m1_and]
  | n + 1 => by
    cases hp : p n with
    | true => rw [← anf_t hp, ← anf_t hp, anf_and p x0 n, Int32.and_assoc]
    | false => rw [← anf_f hp, ← anf_f hp, anf_and p x0 n]
theorem anf_abs {p : Nat → Bool} {k : Nat} (h : p k = true) (x0 : Int32) : ∀ n, k < n → anf p x0 n &&& nI k = anf p x0 n
  | 0, hk => absurd hk (Nat.not_lt_zero k)
  | n + 1, hk => by
    rcases Nat.lt_or_ge k n with z | z
    · have ih := anf_abs h x0 n z
      cases hp : p n with
      | true => rw [← anf_t hp, Int32.and_assoc, and_c (nI n) (nI k), ← Int32.and_assoc, ih]
      | false => rw [← anf_f hp, ih]
    · have e : k = n := by omega
      subst e
      rw [← anf_t h, Int32.and_assoc, Int32.and_self]
theorem anf_none {p : Nat → Bool} {x0 : Int32} : ∀ n, anyb p n = false → anf p x0 n = x0
  | 0, _ => rfl
  | n + 1, h => by
    have h : (anyb p n || p n) = false := h
    rw [Bool.or_eq_false_iff] at h
    rw [← anf_f h.2, anf_none n h.1]
theorem all_and {tc k : Nat} (ht : tc ≤ 8) (hk : k < pw tc) : nI (pw tc - 1) &&& nI k = nI k := by
  have e : nI (pw tc - 1) &&& nI k = nI ((pw tc - 1) &&& k) := by
    apply Int32.toBitVec_inj.1
    show BitVec.ofNat 32 (pw tc - 1) &&& BitVec.ofNat 32 k = BitVec.ofNat 32 ((pw tc - 1) &&& k)
    apply BitVec.eq_of_getLsbD_eq
    intro i hi
    simp [hi]
  rw [e]
  congr 1
  show (2 ^ tc - 1) &&& k = k
  rw [Nat.and_comm, Nat.and_two_pow_sub_one_eq_mod]
  exact Nat.mod_eq_of_lt hk
theorem su_eq (U : Nat → Int32) (Z : Nat → Bool) {n tc : Nat} (hn : n ≤ 40) (ht : tc ≤ 8) : (if decide (mnf (mis U Z n) (nI n) (pw tc) = 0) = true then anf (fun k => zz U Z n k) (nI (pw tc - 1)) (pw tc) else -1) = anf (fun k => zz U Z n k) (-1) (pw tc) := by
  have hpw := pw_in ht
  rw [ag_any U Z hn hpw.1]
  cases ha : anyb (fun k => zz U Z n k) (pw tc) with
  | true =>
    obtain ⟨k, hk, h⟩ := anyb_ex ha
    have h2 := anf_abs (p := fun k => zz U Z n k) h (-1) (pw tc) hk
    rw [if_pos rfl, anf_and]
    rw [← h2, and_c (anf _ _ _) (nI k), ← Int32.and_assoc, all_and ht hk]
  | false =>
    rw [if_neg (by decide), anf_none _ ha]
theorem bn_bm {f : Nat → Int32} (hf : ∀ k, f k < 257) : ∀ n, n < 256 → bn f (n + 1) = bm f (n + 1) ∧ ¬ (bm f (n + 1)).1 = -1
  | 0, _ => by
    have e1 : bn f 1 = (nI 1, f 1) := if_pos (hf 1)
    have e2 : bm f 1 = (nI 1, f 1) := bm_a rfl
    rw [e1, e2]
    exact ⟨rfl, nI_m1 1 (by decide)⟩
  | n + 1, h => by
    obtain ⟨h1, h2⟩ := bn_bm hf n (by omega)
    by_cases hc : f (n + 2) < (bm f (n + 1)).2
    · have e1 : bn f (n + 2) = (nI (n + 2), f (n + 2)) := if_pos (by rw [h1]; exact hc)
      have e2 : bm f (n + 2) = (nI (n + 2), f (n + 2)) := bm_b hc
      rw [e1, e2]
      exact ⟨rfl, nI_m1 (n + 2) (by omega)⟩
    · have e1 : bn f (n + 2) = bn f (n + 1) := if_neg (by rw [h1]; exact hc)
      have e2 : bm f (n + 2) = bm f (n + 1) := bm_f h2 hc
      rw [e1, e2]
      exact ⟨h1, h2⟩
theorem bb_eq (U : Nat → Int32) (Z : Nat → Bool) (n : Nat) {tc : Nat} (ht : tc ≤ 8) : (bn (lf U Z n (pw tc)) (pw tc - 1)).1 = (bm (lf U Z n (pw tc)) (pw tc - 1)).1 := by
  have hpw := pw_in ht
  have hf : ∀ k, lf U Z n (pw tc) k < 257 := by
    intro k
    have h1 := mt_le U Z n (pw tc) (nI k)
    have h2 : ex U Z n (pw tc) ≤ pw tc := ct_le _ _
    unfold lf mx
    rw [pk_sub h1]
    split
    · exact nI_lt (b := 257) (by omega) (by decide)
    · exact nI_lt (b := 257) (by omega) (by decide)
  rcases Nat.eq_zero_or_pos (pw tc - 1) with h | h
  · rw [h]; rfl
  · obtain ⟨k, hk⟩ : ∃ k, pw tc - 1 = k + 1 := ⟨pw tc - 2, by omega⟩
    rw [hk, (bn_bm hf k (by omega)).1]
/-- one night more -/
theorem zz_add (U : Nat → Int32) (Z : Nat → Bool) {n : Nat} (hn : n < 40) (u : Int32) (z : Bool) (k : Nat) : zz (upd U n u) (updB Z n z) (n + 1) k = (zz U Z n k && sx (nI k) u z) := by
  have h := un_le U Z (nI k) n
  have e := un_add U Z (nI k) n u z
  have i1 := zz_iff (U := upd U n u) (Z := updB Z n z) (n := n + 1) (k := k) (by omega)
  have i2 := zz_iff (U := U) (Z := Z) (n := n) (k := k) (by omega)
  rw [e] at i1
  cases hx : sx (nI k) u z
  · rw [Bool.and_false]
    cases hq : zz (upd U n u) (updB Z n z) (n + 1) k
    · rfl
    · have := i1.mp hq
      rw [hx] at this
      exact absurd this (by simp)
  · rw [Bool.and_true]
    rw [hx] at i1
    have i3 : zz (upd U n u) (updB Z n z) (n + 1) k = true ↔ zz U Z n k = true := by
      rw [i1, i2]; simp
    cases hq : zz (upd U n u) (updB Z n z) (n + 1) k <;> cases hr : zz U Z n k <;> simp_all
theorem up_cong {U V : Nat → Int32} {n : Nat} (hu : ∀ j, j < n → V j = U j) (u : Int32) : ∀ j, j < n + 1 → upd V n u j = upd U n u j := fun j hj => by
  by_cases h : j = n
  · subst h; rw [pk_us, pk_us]
  · rw [pk_un h, pk_un h, hu j (by omega)]
theorem upB_cong {Z Y : Nat → Bool} {n : Nat} (hz : ∀ j, j < n → Y j = Z j) (z : Bool) : ∀ j, j < n + 1 → updB Y n z j = updB Z n z j := fun j hj => by
  by_cases h : j = n
  · subst h; rw [updB_at, updB_at]
  · have e1 : updB Y n z j = Y j := if_neg h
    have e2 : updB Z n z j = Z j := if_neg h
    rw [e1, e2, hz j (by omega)]
theorem sh_cong {α : Type} {U V : Nat → α} {n g : Nat} (hu : ∀ j, j < n → V j = U j) : ∀ j, j < n - 1 → shf V g (n - 1) j = shf U g (n - 1) j := fun j hj => by
  by_cases h : g ≤ j ∧ j < n - 1
  · exact (if_pos h).trans ((hu (j + 1) (by omega)).trans (if_pos h).symm)
  · exact (if_neg h).trans ((hu j (by omega)).trans (if_neg h).symm)
theorem wc_eq {U V : Nat → Int32} {Z Y : Nat → Bool} {n tc ac : Nat} (hu : ∀ j, j < n → V j = U j) (hz : ∀ j, j < n → Y j = Z j) (hn : n < 40) (ht : tc ≤ 8) (u : Int32) (z : Bool) (B L : Nat → Int32) :
    nI (ct (fun a => !(decide (smm (fun j => zz (upd V n u) (updB Y n z) (n + 1) j) (pw tc) = -1)) && decide (L a = 0) && !(sx (B a) u z)) ac) = (if anyb (fun j => zz U Z n j && sx (nI j) u z) (pw tc) = true then nI (ct (fun a => !(sx (B a) u z) && decide (L a = 0)) ac) else 0) := by
  have hpw := pw_in ht
  have e : (fun j => zz (upd V n u) (updB Y n z) (n + 1) j) = fun j => zz U Z n j && sx (nI j) u z := by
    funext j
    rw [zz_cong (U := upd V n u) (V := upd U n u) (Z := updB Y n z) (Y := updB Z n z) (up_cong hu u) (upB_cong hz z), zz_add U Z hn]
  rw [e, (smm_any (fun j => zz U Z n j && sx (nI j) u z) (pw tc) hpw.2).1, Bool.not_not]
  cases anyb (fun j => zz U Z n j && sx (nI j) u z) (pw tc) with
  | true =>
    rw [if_pos rfl]
    congr 1
    exact ct_cong ac (fun k _ => by
      show (true && decide (L k = 0) && !(sx (B k) u z)) = (!(sx (B k) u z) && decide (L k = 0))
      rw [Bool.true_and, Bool.and_comm])
  | false =>
    rw [if_neg (by decide)]
    have e0 : ct (fun a => false && decide (L a = 0) && !(sx (B a) u z)) ac = ct (fun _ => false) ac := ct_cong ac (fun k _ => rfl)
    rw [e0]
    have e1 : ∀ m, ct (fun _ => false) m = 0 := fun m => by
      induction m with
      | zero => rfl
      | succ m ih => rw [ct_s, ih]; rfl
    rw [e1]
    rfl
theorem em_eq {U V : Nat → Int32} {Z Y : Nat → Bool} {n tc : Nat} (hu : ∀ j, j < n → V j = U j) (hz : ∀ j, j < n → Y j = Z j) (ht : tc ≤ 8) (u : Int32) (z : Bool) : smm (fun j => zz (upd V n u) (updB Y n z) (n + 1) j) (pw tc) = (spx (fun j => zz (upd U n u) (updB Z n z) (n + 1) j) (pw tc)).1 := by
  have e : (fun j => zz (upd V n u) (updB Y n z) (n + 1) j) = fun j => zz (upd U n u) (updB Z n z) (n + 1) j := by
    funext j
    exact zz_cong (up_cong hu u) (upB_cong hz z) j
  rw [e, sim_eq (pw_in ht).2]
theorem spx_k {p : Nat → Bool} {N : Nat} (hN : N ≤ 256) (h : ¬ (spx p N).1 = -1) : ∃ k, k < 256 ∧ (spx p N).1 = nI k := by
  rw [← sim_eq hN] at h ⊢
  obtain ⟨k, hk, e⟩ := (smm_any p N hN).2 h
  exact ⟨k, by omega, e⟩
/-- what astronomers blame stays a set of things -/
theorem sB_k {B L : Nat → Int32} {u e : Int32} {z : Bool} {ac : Nat} (hB : ∀ a, a < 8 → ∃ k, k < 256 ∧ B a = nI k) (he : ¬ e = -1 → ∃ k, k < 256 ∧ e = nI k) : ∀ a, a < 8 → ∃ k, k < 256 ∧ mrg (sB B L u z e) B ac a = nI k := by
  intro a ha
  unfold mrg
  split
  · unfold sB
    split
    · exact hB a ha
    · split
      · exact hB a ha
      · split
        · exact hB a ha
        · rename_i h
          exact he h
  · exact hB a ha
theorem mrg_off {α : Type} {f g : Nat → α} {i a : Nat} (h : i ≤ a) : mrg f g i a = g a := if_neg (by omega)
end PURE2
