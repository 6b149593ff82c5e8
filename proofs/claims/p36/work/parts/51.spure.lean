/-! ===== the hand-made quarrel's numbers are the class's: pure ===== -/
section SPURE
/-- is the bit t set -/
def gb (s : Int32) (t : Nat) : Bool := s.toBitVec.getLsbD t
theorem ho_gb {t : Nat} (ht : t < 32) (s : Int32) : ho s (nI t) = gb s t := by
  unfold ho gb
  cases hb : s.toBitVec.getLsbD t
  · exact decide_eq_false (fun w => w ((ho_iff ht s).mpr hb))
  · exact decide_eq_true (fun w => by rw [ho_iff ht s, hb] at w; cases w)
theorem gb_ext {s u : Int32} (h : ∀ t, t < 32 → gb s t = gb u t) : s = u := Int32.toBitVec_inj.mp (BitVec.eq_of_getLsbD_eq (fun i hi => h i hi))
theorem gb_and (s u : Int32) (t : Nat) : gb (s &&& u) t = (gb s t && gb u t) := by unfold gb; rw [Int32.toBitVec_and, BitVec.getLsbD_and]
theorem gb_or (s u : Int32) (t : Nat) : gb (s ||| u) t = (gb s t || gb u t) := by unfold gb; rw [Int32.toBitVec_or, BitVec.getLsbD_or]
theorem gb_xor (s u : Int32) (t : Nat) : gb (s ^^^ u) t = (gb s t ^^ gb u t) := by unfold gb; rw [Int32.toBitVec_xor, BitVec.getLsbD_xor]
theorem gb_0 (t : Nat) : gb 0 t = false := by
  unfold gb
  show (0#32).getLsbD t = false
  exact BitVec.getLsbD_zero
theorem gb_m1 {t : Nat} (ht : t < 32) : gb (-1) t = true := by
  have h1 : ∀ i, i < 32 → (-1 : Int32).toBitVec.getLsbD i = true := by decide +kernel
  exact h1 t ht
theorem gb_32 {t : Nat} (h : 32 ≤ t) (s : Int32) : gb s t = false := BitVec.getLsbD_of_ge _ _ h
theorem and0 {s u : Int32} : s &&& u = 0 ↔ ∀ t, t < 32 → (gb s t && gb u t) = false :=
  ⟨fun h t _ => by rw [← gb_and, h, gb_0], fun h => gb_ext (fun t ht => by rw [gb_and, h t ht, gb_0])⟩
theorem gb_nI (k t : Nat) : gb (nI k) t = (decide (t < 32) && k.testBit t) := by
  unfold gb
  show (BitVec.ofNat 32 k).getLsbD t = _
  rw [BitVec.getLsbD_ofNat]
theorem gb_hi {tc k t : Nat} (hk : k < pw tc) (ht : tc ≤ t) : gb (nI k) t = false := by
  rw [gb_nI, Nat.testBit_lt_two_pow (Nat.lt_of_lt_of_le hk (Nat.pow_le_pow_right (by decide) ht)), Bool.and_false]
theorem gb_one {l t : Nat} (hl : l < 32) (ht : t < 32) : gb ((1 : Int32) <<< (nI l &&& 31)) t = decide (l = t) := by
  unfold gb
  rw [pf_sh l hl, BitVec.getLsbD_twoPow]
  simp [ht]
  exact fun _ => hl
theorem anyb_off {p : Nat → Bool} {n : Nat} (h : anyb p n = false) {k : Nat} (hk : k < n) : p k = false := by
  cases hp : p k with
  | false => rfl
  | true =>
    rw [anyb_of hp n hk] at h
    cases h
theorem anyb_non {p : Nat → Bool} : ∀ {n : Nat}, (∀ k, k < n → p k = false) → anyb p n = false
  | 0, _ => rfl
  | n + 1, h => anyb_s (anyb_non (fun k hk => h k (by omega))) (h n (by omega))
theorem anyb_iff {p : Nat → Bool} {n : Nat} : anyb p n = true ↔ ∃ k, k < n ∧ p k = true := ⟨anyb_ex, fun ⟨_, hk, e⟩ => anyb_of e n hk⟩
def allb (p : Nat → Bool) : Nat → Bool
  | 0 => true
  | n + 1 => allb p n && p n
theorem allb_s (p : Nat → Bool) (n : Nat) : allb p (n + 1) = (allb p n && p n) := rfl
theorem allb_iff {p : Nat → Bool} : ∀ {n : Nat}, allb p n = true ↔ ∀ k, k < n → p k = true
  | 0 => ⟨fun _ k hk => absurd hk (Nat.not_lt_zero k), fun _ => rfl⟩
  | n + 1 => by
    rw [allb_s, Bool.and_eq_true, allb_iff (n := n)]
    constructor
    · intro h k hk
      rcases Nat.lt_or_ge k n with z | z
      · exact h.1 k z
      · rw [show k = n by omega]; exact h.2
    · exact fun h => ⟨fun k hk => h k (by omega), h n (by omega)⟩
theorem bI_and (a b : Bool) : bI a &&& bI b = bI (a && b) := by cases a <;> cases b <;> decide
theorem bI_1 (a : Bool) : bI a = 1 ↔ a = true := by cases a <;> decide
theorem bI_inj {a b : Bool} : bI a = bI b ↔ a = b := by cases a <;> cases b <;> decide
theorem bI_nle (a : Bool) : ¬ bI a ≤ 0 ↔ a = true := by cases a <;> decide
theorem tf_f {b : Bool} (h : ¬ b = true) : b = false := by cases b <;> simp_all
/-- a thing of a set, by halves -/
theorem isin_ho {k t : Nat} (ht : t < 32) (hk : k < 2 ^ 31) : decide (nI (k / 2 ^ t % 2) = 1) = ho (nI k) (nI t) := by
  rw [ho_gb ht, gb_nI, Nat.testBit_eq_decide_div_mod_eq, decide_eq_true ht, Bool.true_and]
  have h2 : k / 2 ^ t % 2 < 2 := Nat.mod_lt _ (by decide)
  rcases (show k / 2 ^ t % 2 = 0 ∨ k / 2 ^ t % 2 = 1 by omega) with e | e <;> rw [e] <;> decide
theorem div_s (k i : Nat) (hk : k < 2 ^ 31) : nI (k / 2 ^ i) / 2 = nI (k / 2 ^ (i + 1)) := by
  have h : k / 2 ^ i ≤ k := Nat.div_le_self _ _
  rw [show (2 : Int32) = nI 2 from rfl, pk_div (by omega) (by decide) (by decide), Nat.div_div_eq_div_mul, Nat.pow_succ]
theorem rem_2 {k : Nat} (hk : k < 2 ^ 31) : nI k - nI k / 2 * 2 = nI (k % 2) := pk_rem (d := 2) hk (by decide) (by decide)
theorem pw_s (i : Nat) : nI (pw i) * 2 = nI (pw (i + 1)) := by
  rw [show (2 : Int32) = nI 2 from rfl, pk_mul]
  rfl
theorem meet_any {tc a b : Nat} (ht : tc ≤ 8) (ha : a < pw tc) : anyb (fun t => ho (nI a) (nI t) && ho (nI b) (nI t)) tc = decide (¬ nI a &&& nI b = 0) := by
  cases h : anyb (fun t => ho (nI a) (nI t) && ho (nI b) (nI t)) tc with
  | true =>
    obtain ⟨t, h1, h2⟩ := anyb_ex h
    have h2 : (ho (nI a) (nI t) && ho (nI b) (nI t)) = true := h2
    refine (decide_eq_true (p := ¬ nI a &&& nI b = 0) (fun w => ?_)).symm
    have h3 := and0.mp w t (by omega)
    rw [ho_gb (by omega), ho_gb (by omega), h3] at h2
    cases h2
  | false =>
    refine (decide_eq_false (p := ¬ nI a &&& nI b = 0) (fun w => w (and0.mpr (fun t ht2 => ?_)))).symm
    rcases Nat.lt_or_ge t tc with z | z
    · have h2 : (ho (nI a) (nI t) && ho (nI b) (nI t)) = false := anyb_off h z
      rw [ho_gb ht2, ho_gb ht2] at h2
      exact h2
    · rw [gb_hi ha z, Bool.false_and]
/-- what a night does to the number of those that are not explained -/
theorem un_y {p : Nat → Bool} {i : Nat} {s u : Int32} {z : Bool} (hp : p i = !(sx s u z)) (h : decide (¬ s &&& u = 0) = z) : nI (ct p i) + 0 = nI (ct p (i + 1)) := by
  refine ct_f0 ?_
  rw [hp]; unfold sx; rw [h]; cases z <;> rfl
theorem un_n {p : Nat → Bool} {i : Nat} {s u : Int32} {z : Bool} (hp : p i = !(sx s u z)) (h : ¬ decide (¬ s &&& u = 0) = z) : nI (ct p i) + 1 = nI (ct p (i + 1)) := by
  refine ct_t ?_
  rw [hp]; unfold sx
  cases hd : decide (¬ s &&& u = 0) <;> cases z <;> simp_all
/-- the numbers below n that have p, in their order -/
def xs (p : Nat → Bool) : Nat → List Nat
  | 0 => []
  | n + 1 => if p n = true then xs p n ++ [n] else xs p n
def el (p : Nat → Bool) (n j : Nat) : Nat := (xs p n).getD j 0
theorem xs_t {p : Nat → Bool} {n : Nat} (h : p n = true) : xs p (n + 1) = xs p n ++ [n] := if_pos h
theorem xs_f {p : Nat → Bool} {n : Nat} (h : p n = false) : xs p (n + 1) = xs p n := if_neg (by rw [h]; decide)
theorem xs_len (p : Nat → Bool) : ∀ n, (xs p n).length = ct p n
  | 0 => rfl
  | n + 1 => by
    cases hp : p n with
    | true => rw [xs_t hp, ct_s, if_pos hp, List.length_append, xs_len p n]; rfl
    | false => rw [xs_f hp, ct_s, if_neg (by rw [hp]; decide), xs_len p n]; rfl
theorem el_f {p : Nat → Bool} {n : Nat} (h : p n = false) (j : Nat) : el p (n + 1) j = el p n j := by unfold el; rw [xs_f h]
theorem el_lo {p : Nat → Bool} {n : Nat} (h : p n = true) {j : Nat} (hj : j < ct p n) : el p (n + 1) j = el p n j := by
  unfold el
  rw [xs_t h, List.getD_eq_getElem?_getD, List.getD_eq_getElem?_getD, List.getElem?_append_left (by rw [xs_len]; exact hj)]
theorem el_at {p : Nat → Bool} {n : Nat} (h : p n = true) : el p (n + 1) (ct p n) = n := by
  unfold el
  rw [xs_t h, List.getD_eq_getElem?_getD, List.getElem?_append_right (by rw [xs_len]; exact Nat.le_refl _), xs_len, Nat.sub_self]
  rfl
theorem el_in {p : Nat → Bool} : ∀ {n j : Nat}, j < ct p n → el p n j < n ∧ p (el p n j) = true
  | 0, j, h => absurd h (Nat.not_lt_zero j)
  | n + 1, j, h => by
    cases hp : p n with
    | false =>
      rw [ct_s, if_neg (by rw [hp]; decide)] at h
      obtain ⟨h1, h2⟩ := el_in (p := p) (n := n) (j := j) (by omega)
      rw [el_f hp]
      exact ⟨by omega, h2⟩
    | true =>
      rw [ct_s, if_pos hp] at h
      rcases Nat.lt_or_ge j (ct p n) with z | z
      · obtain ⟨h1, h2⟩ := el_in (p := p) (n := n) (j := j) z
        rw [el_lo hp z]
        exact ⟨by omega, h2⟩
      · rw [show j = ct p n by omega, el_at hp]
        exact ⟨by omega, hp⟩
theorem el_sur {p : Nat → Bool} : ∀ {n k : Nat}, k < n → p k = true → ∃ j, j < ct p n ∧ el p n j = k
  | 0, k, h, _ => absurd h (Nat.not_lt_zero k)
  | n + 1, k, h, hk => by
    cases hp : p n with
    | false =>
      have hkn : k < n := by
        rcases Nat.lt_or_ge k n with z | z
        · exact z
        · rw [show k = n by omega, hp] at hk; cases hk
      obtain ⟨j, h1, h2⟩ := el_sur (p := p) hkn hk
      exact ⟨j, by rw [ct_s, if_neg (by rw [hp]; decide)]; omega, by rw [el_f hp]; exact h2⟩
    | true =>
      rcases Nat.lt_or_ge k n with z | z
      · obtain ⟨j, h1, h2⟩ := el_sur (p := p) z hk
        exact ⟨j, by rw [ct_s, if_pos hp]; omega, by rw [el_lo hp h1]; exact h2⟩
      · exact ⟨ct p n, by rw [ct_s, if_pos hp]; omega, by rw [el_at hp]; omega⟩
theorem el_mono {p : Nat → Bool} : ∀ {n i j : Nat}, i < j → j < ct p n → el p n i < el p n j
  | 0, i, j, _, h => absurd h (Nat.not_lt_zero j)
  | n + 1, i, j, hij, h => by
    cases hp : p n with
    | false =>
      rw [ct_s, if_neg (by rw [hp]; decide)] at h
      rw [el_f hp, el_f hp]
      exact el_mono hij (by omega)
    | true =>
      rw [ct_s, if_pos hp] at h
      rcases Nat.lt_or_ge j (ct p n) with z | z
      · rw [el_lo hp z, el_lo hp (by omega)]
        exact el_mono hij z
      · rw [show j = ct p n by omega, el_at hp, el_lo hp (by omega)]
        exact (el_in (by omega)).1
theorem ct_el (p q : Nat → Bool) : ∀ n, ct (fun j => q (el p n j)) (ct p n) = ct (fun k => p k && q k) n
  | 0 => rfl
  | n + 1 => by
    have ih := ct_el p q n
    cases hp : p n with
    | false =>
      have e1 : ct p (n + 1) = ct p n := by rw [ct_s, if_neg (by rw [hp]; decide)]; rfl
      rw [e1, ct_s (fun k => p k && q k) n, if_neg (by rw [hp, Bool.false_and]; decide), ct_cong (q := fun j => q (el p n j)) (ct p n) (fun k _ => by rw [el_f hp]), ih]
      rfl
    | true =>
      have e1 : ct p (n + 1) = ct p n + 1 := by rw [ct_s, if_pos hp]
      rw [e1, ct_s (fun j => q (el p (n + 1) j)) (ct p n), el_at hp, ct_s (fun k => p k && q k) n, hp, Bool.true_and, ct_cong (q := fun j => q (el p n j)) (ct p n) (fun k hk => by rw [el_lo hp hk]), ih]
/-- the size of a set -/
def pc (k : Nat) : Nat := ct (fun t => ho (nI k) (nI t)) 8
theorem bc_pc : ∀ k, k < 256 → bc (nI k) = nI (pc k) := by decide +kernel
theorem pc_le (k : Nat) : pc k ≤ 8 := ct_le _ 8
theorem ct_end {p : Nat → Bool} {n : Nat} (h : ∀ k, n ≤ k → p k = false) : ∀ d, ct p (n + d) = ct p n
  | 0 => rfl
  | d + 1 => by
    show ct p (n + d + 1) = ct p n
    rw [ct_s, if_neg (by rw [h (n + d) (by omega)]; decide), ct_end h d]; rfl
theorem size_bc {tc k : Nat} (ht : tc ≤ 8) (hk : k < pw tc) : nI (ct (fun t => ho (nI k) (nI t)) tc) = bc (nI k) := by
  have hpw := pw_in ht
  rw [bc_pc k (by omega)]
  congr 1
  have h := ct_end (p := fun t => decide (t < 32) && gb (nI k) t) (n := tc) (fun t h => by
    show (decide (t < 32) && gb (nI k) t) = false
    rw [gb_hi hk h, Bool.and_false]) (8 - tc)
  rw [show tc + (8 - tc) = 8 by omega] at h
  unfold pc
  rw [ct_cong (q := fun t => decide (t < 32) && gb (nI k) t) tc (fun t h9 => by
    show ho (nI k) (nI t) = (decide (t < 32) && gb (nI k) t)
    rw [ho_gb (by omega), decide_eq_true (show t < 32 by omega), Bool.true_and]), ct_cong (p := fun t => ho (nI k) (nI t)) (q := fun t => decide (t < 32) && gb (nI k) t) 8 (fun t h9 => by
    show ho (nI k) (nI t) = (decide (t < 32) && gb (nI k) t)
    rw [ho_gb (by omega), decide_eq_true (show t < 32 by omega), Bool.true_and]), h]
/-- b is -1 if none has p, else the set of fewest things, then the smallest -/
def isBest (p : Nat → Bool) (N : Nat) (b : Int32) : Prop := (b = -1 ∧ ∀ k, k < N → p k = false) ∨ ∃ k, k < N ∧ b = nI k ∧ p k = true ∧ ∀ j, j < N → p j = true → pc k < pc j ∨ (pc k = pc j ∧ k ≤ j)
theorem best_uniq {p : Nat → Bool} {N : Nat} {a b : Int32} (ha : isBest p N a) (hb : isBest p N b) : a = b := by
  rcases ha with ⟨rfl, h1⟩ | ⟨k, h1, rfl, h2, h3⟩ <;> rcases hb with ⟨rfl, g1⟩ | ⟨j, g1, rfl, g2, g3⟩
  · rfl
  · rw [h1 j g1] at g2; cases g2
  · rw [g1 k h1] at h2; cases h2
  · have a1 := h3 j g1 g2
    have a2 := g3 k h1 h2
    have e : k = j := by omega
    rw [e]
theorem spx_best (p : Nat → Bool) : ∀ n, n ≤ 256 → isBest p n (spx p n).1
  | 0, _ => Or.inl ⟨rfl, fun k hk => absurd hk (Nat.not_lt_zero k)⟩
  | n + 1, h => by
    have ih := spx_best p n (by omega)
    have hs := spx_smm p n (by omega)
    cases hp : p n with
    | false =>
      rw [spx_f hp]
      rcases ih with ⟨e, h1⟩ | ⟨k, h1, e, h2, h3⟩
      · refine Or.inl ⟨e, fun k hk => ?_⟩
        rcases Nat.lt_or_ge k n with z | z
        · exact h1 k z
        · rw [show k = n by omega]; exact hp
      · refine Or.inr ⟨k, by omega, e, h2, fun j hj hpj => ?_⟩
        rcases Nat.lt_or_ge j n with z | z
        · exact h3 j z hpj
        · rw [show j = n by omega, hp] at hpj; cases hpj
    | true =>
      rcases ih with ⟨e, h1⟩ | ⟨k, h1, e, h2, h3⟩
      · rw [spx_t hp (by rw [hs.2.1 e]; exact Int32.not_le.mpr (bc9 n (by omega)))]
        refine Or.inr ⟨n, by omega, rfl, hp, fun j hj hpj => ?_⟩
        rcases Nat.lt_or_ge j n with z | z
        · rw [h1 j z] at hpj; cases hpj
        · exact Or.inr ⟨by rw [show j = n by omega], z⟩
      · have hne : ¬ (spx p n).1 = -1 := by rw [e]; exact nI_m1 k (by omega)
        have e2 : (spx p n).2 = nI (pc k) := by rw [hs.2.2 hne, e, bc_pc k (by omega)]
        have hk8 := pc_le k
        have hn8 := pc_le n
        rcases Nat.lt_or_ge (pc n) (pc k) with z | z
        · rw [spx_t hp (by rw [e2, bc_pc n (by omega), nI_leI (by omega) (by omega)]; omega)]
          refine Or.inr ⟨n, by omega, rfl, hp, fun j hj hpj => ?_⟩
          rcases Nat.lt_or_ge j n with z2 | z2
          · have := h3 j z2 hpj
            omega
          · exact Or.inr ⟨by rw [show j = n by omega], z2⟩
        · rw [spx_g (by rw [e2, bc_pc n (by omega), nI_leI (by omega) (by omega)]; exact z)]
          refine Or.inr ⟨k, by omega, e, h2, fun j hj hpj => ?_⟩
          rcases Nat.lt_or_ge j n with z2 | z2
          · exact h3 j z2 hpj
          · rw [show j = n by omega]; omega
/-- the search from the end of a row e of n sets -/
def sdn (e : Nat → Nat) (n : Nat) : Nat → Int32
  | 0 => -1
  | i + 1 => if sdn e n i < 0 ∨ bc (nI (e (n - 1 - i))) ≤ bc (sdn e n i) then nI (e (n - 1 - i)) else sdn e n i
theorem sdn_a {e : Nat → Nat} {n i : Nat} (h : sdn e n i < 0) : sdn e n (i + 1) = nI (e (n - 1 - i)) := if_pos (Or.inl h)
theorem sdn_b {e : Nat → Nat} {n i : Nat} (h : bc (nI (e (n - 1 - i))) ≤ bc (sdn e n i)) : sdn e n (i + 1) = nI (e (n - 1 - i)) := if_pos (Or.inr h)
theorem sdn_c {e : Nat → Nat} {n i : Nat} (h1 : ¬ sdn e n i < 0) (h : ¬ bc (nI (e (n - 1 - i))) ≤ bc (sdn e n i)) : sdn e n (i + 1) = sdn e n i := if_neg (fun w => w.elim h1 h)
theorem sdn_k (e : Nat → Nat) (n : Nat) : ∀ i, i ≤ n → sdn e n i = -1 ∨ ∃ j, n - i ≤ j ∧ j < n ∧ sdn e n i = nI (e j)
  | 0, _ => Or.inl rfl
  | i + 1, h => by
    by_cases hc : sdn e n i < 0 ∨ bc (nI (e (n - 1 - i))) ≤ bc (sdn e n i)
    · exact Or.inr ⟨n - 1 - i, by omega, by omega, if_pos hc⟩
    · have e1 : sdn e n (i + 1) = sdn e n i := if_neg hc
      rw [e1]
      rcases sdn_k e n i (by omega) with w | ⟨j, h1, h2, h3⟩
      · exact Or.inl w
      · exact Or.inr ⟨j, by omega, h2, h3⟩
theorem sdn_best {e : Nat → Nat} {n : Nat} (he : ∀ j, j < n → e j < 256) : ∀ i, i ≤ n → (i = 0 ∧ sdn e n i = -1) ∨ ∃ j, n - i ≤ j ∧ j < n ∧ sdn e n i = nI (e j) ∧ ∀ x, n - i ≤ x → x < n → pc (e j) < pc (e x) ∨ (pc (e j) = pc (e x) ∧ j ≤ x)
  | 0, _ => Or.inl ⟨rfl, rfl⟩
  | i + 1, h => by
    right
    have hq : n - 1 - i < n := by omega
    rcases sdn_best he i (by omega) with ⟨h0, e0⟩ | ⟨j, h1, h2, h3, h4⟩
    · refine ⟨n - 1 - i, by omega, hq, sdn_a (by rw [e0]; decide), fun x h5 h6 => Or.inr ⟨by rw [show x = n - 1 - i by omega], by omega⟩⟩
    · have a1 := he j h2
      have a2 := he _ hq
      have b1 := pc_le (e j)
      have b2 := pc_le (e (n - 1 - i))
      by_cases hc : pc (e (n - 1 - i)) ≤ pc (e j)
      · refine ⟨n - 1 - i, by omega, hq, sdn_b (by rw [h3, bc_pc _ a1, bc_pc _ a2, nI_leI (by omega) (by omega)]; exact hc), fun x h5 h6 => ?_⟩
        rcases Nat.lt_or_ge x (n - i) with z | z
        · exact Or.inr ⟨by rw [show x = n - 1 - i by omega], by omega⟩
        · have := h4 x z h6
          omega
      · refine ⟨j, by omega, h2, ?_, fun x h5 h6 => ?_⟩
        · rw [sdn_c (by rw [h3]; exact nI_pos (by omega)) (by rw [h3, bc_pc _ a1, bc_pc _ a2, nI_leI (by omega) (by omega)]; exact hc), h3]
        · rcases Nat.lt_or_ge x (n - i) with z | z
          · rw [show x = n - 1 - i by omega]
            exact Or.inl (by omega)
          · exact h4 x z h6
theorem sdn_spx (p : Nat → Bool) {N : Nat} (hN : N ≤ 256) : sdn (el p N) (ct p N) (ct p N) = (spx p N).1 := by
  refine best_uniq (p := p) (N := N) ?_ (spx_best p N hN)
  rcases sdn_best (e := el p N) (n := ct p N) (fun j hj => by have := (el_in hj).1; omega) (ct p N) (Nat.le_refl _) with ⟨h0, e0⟩ | ⟨j, h1, h2, h3, h4⟩
  · refine Or.inl ⟨e0, fun k hk => ?_⟩
    cases hp : p k with
    | false => rfl
    | true =>
      obtain ⟨j, h1, h2⟩ := el_sur hk hp
      omega
  · obtain ⟨g1, g2⟩ := el_in h2
    refine Or.inr ⟨el p N j, g1, h3, g2, fun k hk hp => ?_⟩
    obtain ⟨x, f1, f2⟩ := el_sur hk hp
    have h5 := h4 x (by omega) f1
    rw [f2] at h5
    rcases h5 with h5 | ⟨h5, h6⟩
    · exact Or.inl h5
    · refine Or.inr ⟨h5, ?_⟩
      rcases Nat.lt_or_ge j x with z | z
      · have := el_mono z f1
        omega
      · rw [← f2, show x = j by omega]
        exact Nat.le_refl _
/-- what is cleared, night by night -/
theorem orf_any (p : Nat → Bool) (f : Nat → Int32) {t : Nat} (ht : t < 32) : ∀ n, ho (orf p f n) (nI t) = anyb (fun j => p j && ho (f j) (nI t)) n
  | 0 => by
    show ho 0 (nI t) = false
    rw [ho_gb ht, gb_0]
  | n + 1 => by
    have ih := orf_any p f ht n
    show ho (if p n = true then orf p f n ||| f n else orf p f n) (nI t) = (anyb (fun j => p j && ho (f j) (nI t)) n || (p n && ho (f n) (nI t)))
    rw [← ih]
    cases hp : p n with
    | true => rw [if_pos rfl, ho_gb ht, gb_or, ← ho_gb ht, ← ho_gb ht, Bool.true_and]
    | false => rw [if_neg (by decide), Bool.false_and, Bool.or_false]
theorem cl_any (U : Nat → Int32) (Z : Nat → Bool) {t : Nat} (ht : t < 32) (n : Nat) : anyb (fun j => !(Z j) && ho (U j) (nI t)) n = ho (cld U Z n) (nI t) := (orf_any (fun j => !(Z j)) U ht n).symm
/-- what is proved, thing by thing -/
theorem pv_all {tc k t : Nat} {c : Int32} (hc : tc ≤ 8) (hk : k < pw tc) (ht : t < tc) : allb (fun o => decide (nI o = nI t) || !(ho (nI k) (nI o)) || ho c (nI o)) tc = decide (nI k &&& ((c ||| ((1 : Int32) <<< (nI t &&& 31))) ^^^ (-1)) = 0) := by
  have key : (nI k &&& ((c ||| ((1 : Int32) <<< (nI t &&& 31))) ^^^ (-1)) = 0) ↔ ∀ o, o < tc → (decide (nI o = nI t) || !(ho (nI k) (nI o)) || ho c (nI o)) = true := by
    rw [and0]
    constructor
    · intro h o ho9
      have h1 := h o (by omega)
      rw [gb_xor, gb_or, gb_one (by omega) (by omega), gb_m1 (by omega)] at h1
      rw [ho_gb (by omega), ho_gb (by omega)]
      by_cases e : t = o
      · subst e
        rw [decide_eq_true rfl]; rfl
      · rw [decide_eq_false e] at h1
        revert h1
        cases gb (nI k) o <;> cases gb c o <;> simp
    · intro h o ho9
      rcases Nat.lt_or_ge o tc with z | z
      · have h1 := h o z
        rw [ho_gb ho9, ho_gb ho9] at h1
        rw [gb_xor, gb_or, gb_one (by omega) ho9, gb_m1 ho9]
        by_cases e : t = o
        · rw [decide_eq_true e]
          cases gb (nI k) o <;> cases gb c o <;> rfl
        · rw [decide_eq_false e]
          have e2 : ¬ nI o = nI t := fun w => e ((nI_eq (by omega) (by omega)).mp w).symm
          rw [decide_eq_false e2] at h1
          revert h1
          cases gb (nI k) o <;> cases gb c o <;> simp
      · rw [gb_hi hk z, Bool.false_and]
  cases h : allb (fun o => decide (nI o = nI t) || !(ho (nI k) (nI o)) || ho c (nI o)) tc with
  | true => exact (decide_eq_true (key.mpr (allb_iff.mp h))).symm
  | false =>
    refine (decide_eq_false (fun w => ?_)).symm
    rw [allb_iff.mpr (key.mp w)] at h
    cases h
/-- two rows, one place left out -/
def shN (f : Nat → Nat) (t : Nat) : Nat → Nat := fun j => if j < t then f j else f (j + 1)
theorem shN_shf {α : Type} (f : Nat → α) (t n : Nat) {j : Nat} (h : j < n) : shf f t n j = if j < t then f j else f (j + 1) := by
  by_cases h2 : j < t
  · exact (if_neg (by omega)).trans (if_pos h2).symm
  · exact (if_pos (by omega)).trans (if_neg h2).symm
end SPURE
