/-! ===== sums of things, what is surely to blame, means: pure ===== -/
section PURE3
theorem ct_bI (p : Nat → Bool) (n : Nat) : nI (ct p n) + bI (p n) = nI (ct p (n + 1)) := by
  cases h : p n
  · exact ct_f0 h
  · exact ct_t h
theorem be_1 (z : Bool) : bI (decide (bI z = 1)) = bI z := by cases z <;> decide
/-- the things that have p, as a set -/
def bs (p : Nat → Bool) : Nat → Nat
  | 0 => 0
  | n + 1 => bs p n + (if p n = true then 2 ^ n else 0)
theorem bs_s (p : Nat → Bool) (n : Nat) : bs p (n + 1) = bs p n + (if p n = true then 2 ^ n else 0) := rfl
theorem bs_lt (p : Nat → Bool) : ∀ n, bs p n < 2 ^ n
  | 0 => by
    show 0 < 1
    exact Nat.one_pos
  | n + 1 => by
    have h := bs_lt p n
    rw [bs_s, Nat.pow_succ]
    split <;> omega
theorem bs_bit (p : Nat → Bool) (t : Nat) : ∀ n, (bs p n).testBit t = (decide (t < n) && p t)
  | 0 => by
    rw [show bs p 0 = 0 from rfl, Nat.zero_testBit]
    simp
  | n + 1 => by
    have ih := bs_bit p t n
    have hlt := bs_lt p n
    cases hp : p n with
    | false =>
      rw [bs_s, hp, if_neg (by decide), Nat.add_zero, ih]
      by_cases h : t = n
      · subst h
        rw [hp, Bool.and_false, Bool.and_false]
      · rw [decide_eq_decide.mpr (show t < n ↔ t < n + 1 by omega)]
    | true =>
      rw [bs_s, hp, if_pos rfl, Nat.add_comm]
      rcases Nat.lt_or_ge t n with h | h
      · rw [Nat.testBit_two_pow_add_gt h, ih, decide_eq_true h, decide_eq_true (show t < n + 1 by omega)]
      · by_cases h2 : t = n
        · subst h2
          rw [Nat.testBit_two_pow_add_eq, Nat.testBit_lt_two_pow hlt, hp, decide_eq_true (show t < t + 1 by omega)]; rfl
        · rw [Nat.testBit_lt_two_pow (show 2 ^ n + bs p n < 2 ^ t from Nat.lt_of_lt_of_le (show 2 ^ n + bs p n < 2 ^ (n + 1) by rw [Nat.pow_succ]; omega) (Nat.pow_le_pow_right (by decide) (by omega))), decide_eq_false (show ¬ t < n + 1 by omega)]; rfl
theorem gb_bs {p : Nat → Bool} {n t : Nat} (hn : n ≤ 32) : gb (nI (bs p n)) t = (decide (t < n) && p t) := by
  rw [gb_nI, bs_bit]
  by_cases h : t < n
  · rw [decide_eq_true h, decide_eq_true (show t < 32 by omega), Bool.true_and, Bool.true_and]
  · rw [decide_eq_false h, Bool.false_and, Bool.and_false]
theorem bs_t {p : Nat → Bool} {n : Nat} (h : p n = true) : nI (bs p n) + nI (pw n) = nI (bs p (n + 1)) := by
  rw [nI_add, bs_s, if_pos h]; rfl
theorem bs_f {p : Nat → Bool} {n : Nat} (h : p n = false) : nI (bs p n) = nI (bs p (n + 1)) := by
  rw [bs_s, if_neg (by rw [h]; decide)]; rfl
theorem bs_cong {p q : Nat → Bool} : ∀ n, (∀ k, k < n → p k = q k) → bs p n = bs q n
  | 0, _ => rfl
  | n + 1, h => by rw [bs_s, bs_s, bs_cong n (fun k hk => h k (by omega)), h n (by omega)]
theorem gb_orf (p : Nat → Bool) (t : Nat) (ht : t < 32) : ∀ n, n ≤ 32 → gb (orf p (fun t => (1 : Int32) <<< (nI t &&& 31)) n) t = (decide (t < n) && p t)
  | 0, _ => by
    show gb 0 t = _
    rw [gb_0, decide_eq_false (Nat.not_lt_zero t)]; rfl
  | n + 1, h => by
    have ih := gb_orf p t ht n (by omega)
    cases hp : p n with
    | true =>
      rw [← orf_t hp, gb_or, ih, gb_one (by omega) ht]
      by_cases h2 : t < n
      · rw [decide_eq_true h2, decide_eq_true (show t < n + 1 by omega), decide_eq_false (show ¬ n = t by omega), Bool.or_false]
      · by_cases h3 : n = t
        · subst h3
          rw [decide_eq_false h2, decide_eq_true (show n < n + 1 by omega), decide_eq_true rfl, hp]; rfl
        · rw [decide_eq_false h2, decide_eq_false (show ¬ t < n + 1 by omega), decide_eq_false h3]; rfl
    | false =>
      rw [← orf_f hp, ih]
      by_cases h2 : t = n
      · subst h2
        rw [hp, Bool.and_false, Bool.and_false]
      · rw [decide_eq_decide.mpr (show t < n ↔ t < n + 1 by omega)]
theorem orf_bs (p : Nat → Bool) {n : Nat} (hn : n ≤ 32) : orf p (fun t => (1 : Int32) <<< (nI t &&& 31)) n = nI (bs p n) := gb_ext (fun t ht => by rw [gb_orf p t ht n hn, gb_bs hn])
/-- more than half of a -/
theorem maj : ∀ a, a < 9 → ∀ v, v < 9 → v ≤ a → ((nI v ≤ nI a - nI v) ↔ (nI v * 2 ≤ nI a)) := by decide +kernel
theorem vo_f {a v : Nat} (ha : a ≤ 8) (hv : v ≤ a) (h : nI v ≤ nI a - nI v) : decide (¬ nI v * 2 ≤ nI a) = false := decide_eq_false (fun w => w ((maj a (by omega) v (by omega) hv).mp h))
theorem vo_t {a v : Nat} (ha : a ≤ 8) (hv : v ≤ a) (h : ¬ nI v ≤ nI a - nI v) : decide (¬ nI v * 2 ≤ nI a) = true := decide_eq_true (fun w => h ((maj a (by omega) v (by omega) hv).mpr w))
theorem sw_el (U : Nat → Int32) (Z : Nat → Bool) (n N t : Nat) : mt U Z n N ((1 : Int32) <<< (nI t &&& 31)) = ct (fun j => ho (nI (el (fun k => zz U Z n k) N j)) (nI t)) (ct (fun k => zz U Z n k) N) := by
  rw [ct_el (fun k => zz U Z n k) (fun k => ho (nI k) (nI t))]
  exact ct_cong N (fun k _ => by
    show (decide (¬ nI k &&& ((1 : Int32) <<< (nI t &&& 31)) = 0) && zz U Z n k) = (zz U Z n k && ho (nI k) (nI t))
    rw [Bool.and_comm]; rfl)
theorem ct_any {p : Nat → Bool} : ∀ {n : Nat}, (0 < ct p n ↔ anyb p n = true)
  | 0 => ⟨fun h => absurd h (Nat.lt_irrefl 0), fun h => by cases h⟩
  | n + 1 => by
    rw [ct_s, show anyb p (n + 1) = (anyb p n || p n) from rfl, Bool.or_eq_true, ← ct_any (n := n)]
    cases hp : p n <;> simp
theorem ct_all (p q : Nat → Bool) : ∀ n, (ct (fun k => p k && q k) n = ct p n ↔ ∀ k, k < n → p k = true → q k = true)
  | 0 => ⟨fun _ k hk => absurd hk (Nat.not_lt_zero k), fun _ => rfl⟩
  | n + 1 => by
    have ih := ct_all p q n
    have hs := ct_sub (p := fun k => p k && q k) (q := p) (fun k h => by
      have h : (p k && q k) = true := h
      rw [Bool.and_eq_true] at h; exact h.1) n
    rw [ct_s, ct_s p n]
    constructor
    · intro h k hk hpk
      cases hp : p n with
      | false =>
        rw [hp] at h
        rcases Nat.lt_or_ge k n with z | z
        · exact ih.mp (by simpa using h) k z hpk
        · rw [show k = n by omega, hp] at hpk; cases hpk
      | true =>
        rw [hp] at h
        cases hq : q n with
        | false => rw [hq] at h; simp at h; omega
        | true =>
          rw [hq] at h
          rcases Nat.lt_or_ge k n with z | z
          · exact ih.mp (by simpa using h) k z hpk
          · rw [show k = n by omega]; exact hq
    · intro h
      rw [ih.mpr (fun k hk => h k (by omega))]
      cases hp : p n with
      | false => rfl
      | true => rw [h n (by omega) hp]; rfl
theorem gb_anf (p : Nat → Bool) (x0 : Int32) (t : Nat) : ∀ n, gb (anf p x0 n) t = (gb x0 t && allb (fun k => !(p k) || gb (nI k) t) n)
  | 0 => by
    show gb x0 t = (gb x0 t && true)
    rw [Bool.and_true]
  | n + 1 => by
    have ih := gb_anf p x0 t n
    cases hp : p n with
    | true => rw [← anf_t hp, gb_and, ih, allb_s, hp, Bool.not_true, Bool.false_or, Bool.and_assoc]
    | false => rw [← anf_f hp, ih, allb_s, hp, Bool.not_false, Bool.true_or, Bool.and_true]
theorem gb_full {tc t : Nat} (hc : tc ≤ 32) : gb (nI (pw tc - 1)) t = decide (t < tc) := by
  rw [gb_nI]
  show (decide (t < 32) && (2 ^ tc - 1).testBit t) = _
  rw [Nat.testBit_two_pow_sub_one]
  by_cases h : t < tc
  · rw [decide_eq_true h, decide_eq_true (show t < 32 by omega)]; rfl
  · rw [decide_eq_false h, Bool.and_false]
/-- what is surely to blame, thing by thing -/
def sur (n : Nat) (p : Nat → Bool) (t : Nat) : Int32 := if n = 0 then -1 else nI (bs p t)
theorem sur_0 (n : Nat) (p : Nat → Bool) : (if nI n = 0 then (-1 : Int32) else 0) = (if nI n = 0 then -1 else 0) := rfl
theorem sur_b {n : Nat} (hn : n < 2 ^ 31) (p : Nat → Bool) : (if nI n = 0 then (-1 : Int32) else 0) = sur n p 0 := by
  unfold sur
  by_cases h : n = 0
  · subst h; rfl
  · rw [if_neg h, if_neg (nI_ne0 (by omega) hn)]; rfl
theorem sur_z {n : Nat} (hn : n < 2 ^ 31) {p : Nat → Bool} {t : Nat} (h : nI n ≤ 0) : sur n p t = sur n p (t + 1) := by
  have h0 : n = 0 := by
    rw [← nI_0, nI_leI hn (by decide)] at h; omega
  unfold sur
  rw [if_pos h0, if_pos h0]
theorem sur_f {n : Nat} {p : Nat → Bool} {t : Nat} (h : p t = false) : sur n p t = sur n p (t + 1) := by
  unfold sur; rw [bs_f h]
theorem sur_t {n : Nat} {p : Nat → Bool} {t : Nat} (h0 : ¬ nI n ≤ 0) (h : p t = true) : sur n p t + nI (pw t) = sur n p (t + 1) := by
  have hn : ¬ n = 0 := fun w => h0 (by rw [w]; decide)
  unfold sur; rw [if_neg hn, if_neg hn, bs_t h]
theorem su_sur (U : Nat → Int32) (Z : Nat → Bool) {n tc : Nat} (hn : n ≤ 40) (ht : tc ≤ 8) : (if decide (mnf (mis U Z n) (nI n) (pw tc) = 0) = true then anf (fun k => zz U Z n k) (nI (pw tc - 1)) (pw tc) else -1) = sur (ct (fun k => zz U Z n k) (pw tc)) (fun t => decide (nI (ct (fun j => ho (nI (el (fun k => zz U Z n k) (pw tc) j)) (nI t)) (ct (fun k => zz U Z n k) (pw tc))) = nI (ct (fun k => zz U Z n k) (pw tc)))) tc := by
  have hpw := pw_in ht
  rw [ag_any U Z hn hpw.1]
  unfold sur
  have hc := ct_le (fun k => zz U Z n k) (pw tc)
  cases ha : anyb (fun k => zz U Z n k) (pw tc) with
  | false =>
    rw [if_neg (by decide), if_pos (by
      rcases Nat.eq_zero_or_pos (ct (fun k => zz U Z n k) (pw tc)) with z | z
      · exact z
      · rw [ct_any.mp z] at ha; cases ha)]
  | true =>
    have hp := ct_any.mpr ha
    rw [if_pos rfl, if_neg (by omega)]
    refine gb_ext (fun t ht9 => ?_)
    rw [gb_anf, gb_full (by omega), gb_bs (by omega)]
    by_cases h : t < tc
    · rw [decide_eq_true h, Bool.true_and, Bool.true_and, ct_el (fun k => zz U Z n k) (fun k => ho (nI k) (nI t))]
      have hc2 := ct_le (fun k => zz U Z n k && ho (nI k) (nI t)) (pw tc)
      have key : (nI (ct (fun k => zz U Z n k && ho (nI k) (nI t)) (pw tc)) = nI (ct (fun k => zz U Z n k) (pw tc))) ↔ allb (fun k => !(zz U Z n k) || gb (nI k) t) (pw tc) = true := by
        rw [nI_eq (by omega) (by omega), ct_all, allb_iff]
        refine forall_congr' (fun k => forall_congr' (fun hk => ?_))
        rw [ho_gb ht9]
        cases zz U Z n k <;> simp
      cases hb : allb (fun k => !(zz U Z n k) || gb (nI k) t) (pw tc) with
      | true => exact (decide_eq_true (key.mpr hb)).symm
      | false => exact (decide_eq_false (fun w => by rw [key.mp w] at hb; cases hb)).symm
    · rw [decide_eq_false h, Bool.false_and, Bool.false_and]
theorem ag_pos (U : Nat → Int32) (Z : Nat → Bool) {n tc : Nat} (hn : n ≤ 40) (ht : tc ≤ 8) : bI (decide (mnf (mis U Z n) (nI n) (pw tc) = 0)) = bI (decide (¬ nI (ct (fun k => zz U Z n k) (pw tc)) ≤ 0)) := by
  have hpw := pw_in ht
  have hc := ct_le (fun k => zz U Z n k) (pw tc)
  rw [ag_any U Z hn hpw.1]
  congr 1
  cases ha : anyb (fun k => zz U Z n k) (pw tc) with
  | true => exact (decide_eq_true (nI_nle (ct_any.mpr ha) (by omega))).symm
  | false =>
    refine (decide_eq_false (fun w => w ?_)).symm
    have h0 : ct (fun k => zz U Z n k) (pw tc) = 0 := by
      rcases Nat.eq_zero_or_pos (ct (fun k => zz U Z n k) (pw tc)) with z | z
      · exact z
      · rw [ct_any.mp z] at ha; cases ha
    rw [h0]; decide
/-- a mean is itself -/
theorem mean_self {x y : Int32} (hy : ¬ y = 0) : Op.cmpValue (FP.dcmp (FP.ddiv (FP.i2d x) (FP.i2d y)) (FP.ddiv (FP.i2d x) (FP.i2d y))) .l = 0 := by
  have h : FP.Core.dIsNaN (FP.ddiv (FP.i2d x) (FP.i2d y)) = false := FP.Core.ddiv_out (FP.Core.DFin.notNaN (FP.Core.i2d_fin x)) (FP.Core.i2d_fin y) (fun z => FP.Core.i2d_ne_zero hy ((FP.Core.zero_bits2 _).mp z))
  show Op.cmpValue (FP.Core.dcmp _ _) _ = 0
  rw [FP.Core.dcmp_self ((FP.Core.notNaN_iff _).mp h)]
  rfl
theorem mean_0 : Op.cmpValue (FP.dcmp FP.dconst0 FP.dconst0) .l = 0 := by decide +kernel
end PURE3
section ROWS3
variable {p : Program} {l : Launch} {e : Env} {R : Room} {s : State} {m : MethodId} {args : Array Value} {below : List Frame} {meth : Method} {c : Code} {H : Heap} {locs : List Loc} {cells slots : Nat} {Q : State → Prop} {cc : ByteArray} {pc : Nat} {ls : Array Slot} {rest : List Value}
/-- x = 0 ? -1 : 0 -/
theorem lv_m1 (hx : p.tables.exec = Jvm.exec) (hb : c.code = cc) {x : Int32} {off off2 : Int} {t0 : Nat} (d0 : decode cc pc = .ok (.ifCond .ne off, 3)) (d1 : decode cc (pc + 3) = .ok (.iconst (-1), 1)) (d2 : decode cc (pc + 4) = .ok (.goto off2, 3)) (d3 : decode cc t0 = .ok (.iconst 0, 1)) (ht : (pc : Int) + off = (t0 : Int)) (ht2 : ((pc + 4 : Nat) : Int) + off2 = ((t0 + 1 : Nat) : Int))
    (k : W p l e R s m args below meth c H locs cells slots Q (F0 m (t0 + 1) ls (.int (if x = 0 then -1 else 0) :: rest))) : W p l e R s m args below meth c H locs cells slots Q (F0 m pc ls (.int x :: rest)) :=
  lv_if_ne (tgt := t0) hx hb d0 ht (fun h => lv_iconst (v := 0) hx hb d3 (by decide) (by rw [if_neg h] at k; exact k))
    (fun h => lv_iconst (v := (-1)) hx hb d1 (by decide) (lv_goto (tgt := t0 + 1) hx hb d2 ht2 (by rw [if_pos h] at k; exact k)))
/-- x > 0, as a value -/
theorem lv_gt0 (hx : p.tables.exec = Jvm.exec) (hb : c.code = cc) {x : Int32} {off off2 : Int} {t0 : Nat} (d0 : decode cc pc = .ok (.ifCond .le off, 3)) (d1 : decode cc (pc + 3) = .ok (.iconst 1, 1)) (d2 : decode cc (pc + 4) = .ok (.goto off2, 3)) (d3 : decode cc t0 = .ok (.iconst 0, 1)) (ht : (pc : Int) + off = (t0 : Int)) (ht2 : ((pc + 4 : Nat) : Int) + off2 = ((t0 + 1 : Nat) : Int))
    (k : W p l e R s m args below meth c H locs cells slots Q (F0 m (t0 + 1) ls (.int (bI (decide (¬ x ≤ 0))) :: rest))) : W p l e R s m args below meth c H locs cells slots Q (F0 m pc ls (.int x :: rest)) :=
  lv_if_le (tgt := t0) hx hb d0 ht (fun h => lv_iconst (v := 0) hx hb d3 (by decide) (by rw [decide_eq_false (p := ¬ x ≤ 0) (fun w => w h)] at k; exact k))
    (fun h => lv_iconst (v := 1) hx hb d1 (by decide) (lv_goto (tgt := t0 + 1) hx hb d2 ht2 (by rw [decide_eq_true (p := ¬ x ≤ 0) h] at k; exact k)))
end ROWS3
