/-! ===== the two classes' common numbers: pure ===== -/
section PURE
def bI (b : Bool) : Int32 := if b = true then 1 else 0
theorem bI_t : bI true = 1 := rfl
theorem bI_f : bI false = 0 := rfl
theorem bI_z {b : Bool} : bI b = 0 → b = false := by cases b <;> decide
theorem bI_nz {b : Bool} : ¬ bI b = 0 → b = true := by cases b <;> decide
theorem bI_nar (b : Bool) : narrow .boolean (.int (bI b)) = .int (bI b) := by cases b <;> rfl
theorem bI_vnar (b : Bool) : vp_nar .boolean (bI b) = bI b := by cases b <;> rfl
/-- does the set s explain a night of u with the smudge z -/
def sx (s u : Int32) (z : Bool) : Bool := decide (¬ s &&& u = 0) == z
theorem sx_1 {s u : Int32} {z : Bool} (h : s &&& u = 0) (h2 : (0 : Int32) = bI z) : (1 : Int32) = bI (sx s u z) := by
  unfold sx
  rw [decide_eq_false (fun w => w h)]
  cases z
  · rfl
  · exact absurd h2 (by decide)
theorem sx_0 {s u : Int32} {z : Bool} (h : s &&& u = 0) (h2 : ¬ (0 : Int32) = bI z) : (0 : Int32) = bI (sx s u z) := by
  unfold sx
  rw [decide_eq_false (fun w => w h)]
  cases z
  · exact absurd rfl h2
  · rfl
theorem sx_3 {s u : Int32} {z : Bool} (h : ¬ s &&& u = 0) (h2 : (1 : Int32) = bI z) : (1 : Int32) = bI (sx s u z) := by
  unfold sx
  rw [decide_eq_true h]
  cases z
  · exact absurd h2 (by decide)
  · rfl
theorem sx_2 {s u : Int32} {z : Bool} (h : ¬ s &&& u = 0) (h2 : ¬ (1 : Int32) = bI z) : (0 : Int32) = bI (sx s u z) := by
  unfold sx
  rw [decide_eq_true h]
  cases z
  · rfl
  · exact absurd rfl h2
/-- how many k below n have p -/
def ct (p : Nat → Bool) : Nat → Nat
  | 0 => 0
  | n + 1 => ct p n + (if p n = true then 1 else 0)
theorem ct_s (p : Nat → Bool) (n : Nat) : ct p (n + 1) = ct p n + (if p n = true then 1 else 0) := rfl
theorem ct_t {p : Nat → Bool} {n : Nat} (h : p n = true) : nI (ct p n) + 1 = nI (ct p (n + 1)) := by
  rw [nI_1, ct_s, if_pos h]
theorem ct_t1 {p : Nat → Bool} {n : Nat} (h : p n = true) : nI (ct p n + 1) = nI (ct p (n + 1)) := by
  rw [ct_s, if_pos h]
theorem ct_f {p : Nat → Bool} {n : Nat} (h : p n = false) : nI (ct p n) = nI (ct p (n + 1)) := by
  rw [ct_s, h]; rfl
theorem ct_f0 {p : Nat → Bool} {n : Nat} (h : p n = false) : nI (ct p n) + 0 = nI (ct p (n + 1)) := by
  rw [← ct_f h]; exact Int32.add_zero _
theorem ct_le (p : Nat → Bool) : ∀ n, ct p n ≤ n
  | 0 => Nat.le_refl 0
  | n + 1 => by
    have h := ct_le p n
    rw [ct_s]
    by_cases hp : p n = true
    · rw [if_pos hp]; omega
    · rw [if_neg hp]; omega
theorem ct_cong {p q : Nat → Bool} : ∀ n, (∀ k, k < n → p k = q k) → ct p n = ct q n
  | 0, _ => rfl
  | n + 1, h => by rw [ct_s, ct_s, ct_cong n (fun k hk => h k (by omega)), h n (by omega)]
/-- how many of n nights the set s does not explain -/
def un (U : Nat → Int32) (Z : Nat → Bool) (s : Int32) (n : Nat) : Nat := ct (fun j => !(sx s (U j) (Z j))) n
theorem un_le (U : Nat → Int32) (Z : Nat → Bool) (s : Int32) (n : Nat) : un U Z s n ≤ n := ct_le _ n
theorem un_cong {U V : Nat → Int32} {Z Y : Nat → Bool} {n : Nat} (hu : ∀ j, j < n → U j = V j) (hz : ∀ j, j < n → Z j = Y j) (s : Int32) : un U Z s n = un V Y s n := ct_cong n (fun k hk => by
  show (!(sx s (U k) (Z k))) = !(sx s (V k) (Y k))
  rw [hu k hk, hz k hk])
/-- the set of the number k explains all n nights -/
def zz (U : Nat → Int32) (Z : Nat → Bool) (n k : Nat) : Bool := decide (nI (un U Z (nI k) n) = 0)
theorem zz_t {U : Nat → Int32} {Z : Nat → Bool} {n k : Nat} (h : nI (un U Z (nI k) n) = 0) : zz U Z n k = true := decide_eq_true h
theorem zz_f {U : Nat → Int32} {Z : Nat → Bool} {n k : Nat} (h : ¬ nI (un U Z (nI k) n) = 0) : zz U Z n k = false := decide_eq_false h
theorem zz_cong {U V : Nat → Int32} {Z Y : Nat → Bool} {n : Nat} (hu : ∀ j, j < n → U j = V j) (hz : ∀ j, j < n → Z j = Y j) (k : Nat) : zz U Z n k = zz V Y n k := by
  unfold zz; rw [un_cong hu hz]
theorem zz_iff {U : Nat → Int32} {Z : Nat → Bool} {n k : Nat} (hn : n ≤ 40) : zz U Z n k = true ↔ un U Z (nI k) n = 0 := by
  have h := un_le U Z (nI k) n
  unfold zz
  rw [decide_eq_true_iff, ← nI_0, nI_eq (by omega) (by omega)]
/-- is the thing p in the set s: by a mask, and by a shift -/
def ho (s p : Int32) : Bool := decide (¬ s &&& ((1 : Int32) <<< (p &&& 31)) = 0)
def hs (s p : Int32) : Bool := decide ((s >>> (p &&& 31)) &&& 1 = 1)
theorem ho_t {s p : Int32} (h : ¬ s &&& ((1 : Int32) <<< (p &&& 31)) = 0) : (1 : Int32) = bI (ho s p) := by unfold ho; rw [decide_eq_true h]; rfl
theorem ho_f {s p : Int32} (h : s &&& ((1 : Int32) <<< (p &&& 31)) = 0) : (0 : Int32) = bI (ho s p) := by unfold ho; rw [decide_eq_false (fun z => z h)]; rfl
theorem hs_t {s p : Int32} (h : (s >>> (p &&& 31)) &&& 1 = 1) : (1 : Int32) = bI (hs s p) := by unfold hs; rw [decide_eq_true h]; rfl
theorem hs_f {s p : Int32} (h : ¬ (s >>> (p &&& 31)) &&& 1 = 1) : (0 : Int32) = bI (hs s p) := by unfold hs; rw [decide_eq_false h]; rfl
/-- v lies from a to b -/
def rg (v a b : Int32) : Bool := decide (¬ v < a) && decide (¬ b < v)
theorem rg_1 {v a b : Int32} (h : ¬ v < a) (h2 : ¬ b < v) : (1 : Int32) = bI (rg v a b) := by unfold rg; rw [decide_eq_true h, decide_eq_true h2]; rfl
theorem rg_2 {v a b : Int32} (h2 : b < v) : (0 : Int32) = bI (rg v a b) := by unfold rg; rw [decide_eq_false (p := ¬ b < v) (fun z => z h2), Bool.and_false]; rfl
theorem rg_3 {v a b : Int32} (h : v < a) : (0 : Int32) = bI (rg v a b) := by unfold rg; rw [decide_eq_false (p := ¬ v < a) (fun z => z h), Bool.false_and]; rfl
/-- what of f stands at the places that have p, joined -/
def orf (p : Nat → Bool) (f : Nat → Int32) : Nat → Int32
  | 0 => 0
  | n + 1 => if p n = true then orf p f n ||| f n else orf p f n
theorem orf_t {p : Nat → Bool} {f : Nat → Int32} {n : Nat} (h : p n = true) : orf p f n ||| f n = orf p f (n + 1) := (if_pos h).symm
theorem orf_f {p : Nat → Bool} {f : Nat → Int32} {n : Nat} (h : p n = false) : orf p f n = orf p f (n + 1) := (if_neg (by rw [h]; decide)).symm
theorem orf_cong {p q : Nat → Bool} {f g : Nat → Int32} : ∀ n, (∀ k, k < n → p k = q k) → (∀ k, k < n → f k = g k) → orf p f n = orf q g n
  | 0, _, _ => rfl
  | n + 1, h, h2 => by
    show (if p n = true then orf p f n ||| f n else orf p f n) = if q n = true then orf q g n ||| g n else orf q g n
    rw [orf_cong n (fun k hk => h k (by omega)) (fun k hk => h2 k (by omega)), h n (by omega), h2 n (by omega)]
/-- all that were used in some night without a smudge -/
def cld (U : Nat → Int32) (Z : Nat → Bool) (n : Nat) : Int32 := orf (fun j => !(Z j)) U n
/-- some k below n has p -/
def anyb (p : Nat → Bool) : Nat → Bool
  | 0 => false
  | n + 1 => anyb p n || p n
theorem anyb_s {p : Nat → Bool} {n : Nat} (h : anyb p n = false) (h2 : p n = false) : anyb p (n + 1) = false := by
  show (anyb p n || p n) = false
  rw [h, h2]; rfl
theorem anyb_of {p : Nat → Bool} {i : Nat} (h : p i = true) : ∀ n, i < n → anyb p n = true
  | 0, hi => absurd hi (Nat.not_lt_zero i)
  | n + 1, hi => by
    show (anyb p n || p n) = true
    rcases Nat.lt_or_ge i n with z | z
    · rw [anyb_of h n z, Bool.true_or]
    · rw [show n = i by omega, h, Bool.or_true]
theorem anyb_cong {p q : Nat → Bool} : ∀ n, (∀ k, k < n → p k = q k) → anyb p n = anyb q n
  | 0, _ => rfl
  | n + 1, h => by
    show (anyb p n || p n) = (anyb q n || q n)
    rw [anyb_cong n (fun k hk => h k (by omega)), h n (by omega)]
/-- the sets that have p, met, from x0 on -/
def anf (p : Nat → Bool) (x0 : Int32) : Nat → Int32
  | 0 => x0
  | n + 1 => if p n = true then anf p x0 n &&& nI n else anf p x0 n
theorem anf_t {p : Nat → Bool} {x0 : Int32} {n : Nat} (h : p n = true) : anf p x0 n &&& nI n = anf p x0 (n + 1) := (if_pos h).symm
theorem anf_f {p : Nat → Bool} {x0 : Int32} {n : Nat} (h : p n = false) : anf p x0 n = anf p x0 (n + 1) := (if_neg (by rw [h]; decide)).symm
/-- the least of x0 and f -/
def mnf (f : Nat → Int32) (x0 : Int32) : Nat → Int32
  | 0 => x0
  | n + 1 => if f n < mnf f x0 n then f n else mnf f x0 n
theorem mnf_s (f : Nat → Int32) (x0 : Int32) (n : Nat) : (if f n < mnf f x0 n then f n else mnf f x0 n) = mnf f x0 (n + 1) := rfl
theorem mnf_cong {f g : Nat → Int32} {x0 : Int32} : ∀ n, (∀ k, k < n → f k = g k) → mnf f x0 n = mnf g x0 n
  | 0, _ => rfl
  | n + 1, h => by rw [← mnf_s, ← mnf_s, mnf_cong n (fun k hk => h k (by omega)), h n (by omega)]
/-- Integer.bitCount, step by step -/
def bc1 (x : Int32) : Int32 := x - ((x.toUInt32 >>> ((1 : Int32).toUInt32 &&& Int32.toUInt32 31)).toInt32 &&& 1431655765)
def bc2 (x : Int32) : Int32 := (x &&& 858993459) + ((x.toUInt32 >>> ((2 : Int32).toUInt32 &&& Int32.toUInt32 31)).toInt32 &&& 858993459)
def bc3 (x : Int32) : Int32 := (x + (x.toUInt32 >>> ((4 : Int32).toUInt32 &&& Int32.toUInt32 31)).toInt32) &&& 252645135
def bc4 (x : Int32) : Int32 := x + (x.toUInt32 >>> ((8 : Int32).toUInt32 &&& Int32.toUInt32 31)).toInt32
def bc5 (x : Int32) : Int32 := x + (x.toUInt32 >>> ((16 : Int32).toUInt32 &&& Int32.toUInt32 31)).toInt32
def bc (x : Int32) : Int32 := bc5 (bc4 (bc3 (bc2 (bc1 x)))) &&& 63
/-- the class's search for the simplest set: the set, its size -/
def spx (p : Nat → Bool) : Nat → Int32 × Int32
  | 0 => (-1, 9)
  | n + 1 => if p n = true ∧ bc (nI n) < (spx p n).2 then (nI n, bc (nI n)) else spx p n
theorem spx_t {p : Nat → Bool} {n : Nat} (h : p n = true) (h2 : ¬ (spx p n).2 ≤ bc (nI n)) : spx p (n + 1) = (nI n, bc (nI n)) := if_pos ⟨h, Int32.not_le.mp h2⟩
theorem spx_f {p : Nat → Bool} {n : Nat} (h : p n = false) : spx p (n + 1) = spx p n := if_neg (fun z => by rw [h] at z; exact absurd z.1 (by decide))
theorem spx_g {p : Nat → Bool} {n : Nat} (h2 : (spx p n).2 ≤ bc (nI n)) : spx p (n + 1) = spx p n := if_neg (fun z => absurd h2 (Int32.not_le.mpr z.2))
/-- the reference's search for the simplest set -/
def smm (p : Nat → Bool) : Nat → Int32
  | 0 => -1
  | n + 1 => if p n = true ∧ (smm p n = -1 ∨ bc (nI n) < bc (smm p n)) then nI n else smm p n
theorem smm_a {p : Nat → Bool} {n : Nat} (h : p n = true) (h2 : smm p n = -1) : nI n = smm p (n + 1) := (if_pos ⟨h, Or.inl h2⟩).symm
theorem smm_b {p : Nat → Bool} {n : Nat} (h : p n = true) (h2 : ¬ bc (smm p n) ≤ bc (nI n)) : nI n = smm p (n + 1) := (if_pos ⟨h, Or.inr (Int32.not_le.mp h2)⟩).symm
theorem smm_f {p : Nat → Bool} {n : Nat} (h : p n = false) : smm p n = smm p (n + 1) := (if_neg (fun z => by rw [h] at z; exact absurd z.1 (by decide))).symm
theorem smm_g {p : Nat → Bool} {n : Nat} (h1 : ¬ smm p n = -1) (h2 : bc (smm p n) ≤ bc (nI n)) : smm p n = smm p (n + 1) := (if_neg (fun z => z.2.elim h1 (fun z => absurd h2 (Int32.not_le.mpr z)))).symm
/-- the search for the best night: f k is what the night of the set k leaves at worst -/
def bn (f : Nat → Int32) : Nat → Int32 × Int32
  | 0 => (-1, 257)
  | n + 1 => if f (n + 1) < (bn f n).2 then (nI (n + 1), f (n + 1)) else bn f n
theorem bn_t {f : Nat → Int32} {n : Nat} (h : ¬ (bn f n).2 ≤ f (n + 1)) : bn f (n + 1) = (nI (n + 1), f (n + 1)) := if_pos (Int32.not_le.mp h)
theorem bn_f {f : Nat → Int32} {n : Nat} (h : (bn f n).2 ≤ f (n + 1)) : bn f (n + 1) = bn f n := if_neg (fun z => absurd h (Int32.not_le.mpr z))
def bm (f : Nat → Int32) : Nat → Int32 × Int32
  | 0 => (-1, 0)
  | n + 1 => if ¬ (bm f n).1 = -1 ∧ ¬ f (n + 1) < (bm f n).2 then bm f n else (nI (n + 1), f (n + 1))
theorem bm_a {f : Nat → Int32} {n : Nat} (h : (bm f n).1 = -1) : bm f (n + 1) = (nI (n + 1), f (n + 1)) := if_neg (fun z => z.1 h)
theorem bm_b {f : Nat → Int32} {n : Nat} (h : f (n + 1) < (bm f n).2) : bm f (n + 1) = (nI (n + 1), f (n + 1)) := if_neg (fun z => z.2 h)
theorem bm_f {f : Nat → Int32} {n : Nat} (h1 : ¬ (bm f n).1 = -1) (h : ¬ f (n + 1) < (bm f n).2) : bm f (n + 1) = bm f n := if_pos ⟨h1, h⟩
/-- the greater one -/
def mx (x y : Int32) : Int32 := if x < y then y else x
/-- how many sets that explain all nights meet u -/
def mt (U : Nat → Int32) (Z : Nat → Bool) (n N : Nat) (u : Int32) : Nat := ct (fun k => decide (¬ nI k &&& u = 0) && zz U Z n k) N
def ex (U : Nat → Int32) (Z : Nat → Bool) (n N : Nat) : Nat := ct (fun k => zz U Z n k) N
/-- the sum of the sizes of the sets that astronomers blame -/
def bsum (B : Nat → Int32) : Nat → Int32
  | 0 => 0
  | n + 1 => bsum B n + bc (B n)
theorem bsum_s (B : Nat → Int32) (n : Nat) : bsum B n + bc (B n) = bsum B (n + 1) := rfl
/-- f below i, g from i on -/
def mrg {α : Type} (f g : Nat → α) (i : Nat) : Nat → α := fun a => if a < i then f a else g a
theorem mrg_0 {α : Type} (f g : Nat → α) : mrg f g 0 = g := rfl
theorem mrg_at {α : Type} (f g : Nat → α) (i : Nat) : mrg f g i i = g i := if_neg (Nat.lt_irrefl i)
theorem mrg_s (f g : Nat → Int32) (i : Nat) {x : Int32} (h : x = f i) : upd (mrg f g i) i x = mrg f g (i + 1) := by
  funext a
  by_cases ha : a = i
  · subst ha
    rw [pk_us, h]
    exact (if_pos (Nat.lt_succ_self a)).symm
  · rw [pk_un ha]
    by_cases h2 : a < i
    · exact (if_pos h2).trans (if_pos (by omega : a < i + 1)).symm
    · exact (if_neg h2).trans (if_neg (by omega : ¬ a < i + 1)).symm
theorem mrg_k (f g : Nat → Int32) (i : Nat) (h : g i = f i) : mrg f g i = mrg f g (i + 1) := by
  funext a
  by_cases h2 : a < i
  · exact (if_pos h2).trans (if_pos (by omega : a < i + 1)).symm
  · by_cases h3 : a = i
    · subst h3
      exact (if_neg h2).trans (h.trans (if_pos (Nat.lt_succ_self a)).symm)
    · exact (if_neg h2).trans (if_neg (by omega : ¬ a < i + 1)).symm
/-- what lies behind night g moves up, as far as i -/
def shf {α : Type} (f : Nat → α) (g i : Nat) : Nat → α := fun j => if g ≤ j ∧ j < i then f (j + 1) else f j
theorem shf_0 {α : Type} (f : Nat → α) (g : Nat) : shf f g g = f := by
  funext j
  exact if_neg (by omega)
theorem shf_at {α : Type} (f : Nat → α) (g i : Nat) : shf f g i (i + 1) = f (i + 1) := if_neg (by omega)
theorem shf_s (f : Nat → Int32) {g i : Nat} (hg : g ≤ i) {x : Int32} (h : x = f (i + 1)) : upd (shf f g i) i x = shf f g (i + 1) := by
  funext j
  by_cases hj : j = i
  · subst hj
    rw [pk_us, h]
    exact (if_pos ⟨hg, Nat.lt_succ_self j⟩).symm
  · rw [pk_un hj]
    by_cases h2 : g ≤ j ∧ j < i
    · exact (if_pos h2).trans (if_pos (by omega : g ≤ j ∧ j < i + 1)).symm
    · exact (if_neg h2).trans (if_neg (by omega : ¬ (g ≤ j ∧ j < i + 1))).symm
theorem shf_bI (f : Nat → Bool) (g i : Nat) : shf (fun j => bI (f j)) g i = fun j => bI (shf f g i j) := by
  funext j
  by_cases h2 : g ≤ j ∧ j < i
  · exact (if_pos h2).trans (congrArg bI (if_pos h2).symm)
  · exact (if_neg h2).trans (congrArg bI (if_neg h2).symm)
def updB (f : Nat → Bool) (k : Nat) (b : Bool) : Nat → Bool := fun j => if j = k then b else f j
theorem updB_bI (f : Nat → Bool) (k : Nat) (b : Bool) : upd (fun j => bI (f j)) k (bI b) = fun j => bI (updB f k b j) := by
  funext j
  by_cases h : j = k
  · subst h
    rw [pk_us]
    exact congrArg bI (if_pos rfl).symm
  · rw [pk_un h]
    exact congrArg bI (if_neg h).symm
/-- what a night does to an astronomer who blames b, with stubbornness v of f, where e is the simplest set -/
def sB (B L : Nat → Int32) (u : Int32) (z : Bool) (e : Int32) (a : Nat) : Int32 := if sx (B a) u z = true then B a else if ¬ L a ≤ 0 then B a else if e = -1 then B a else e
def sL (B L F : Nat → Int32) (u : Int32) (z : Bool) (e : Int32) (a : Nat) : Int32 := if sx (B a) u z = true then L a else if ¬ L a ≤ 0 then L a - 1 else if e = -1 then L a else F a
def sC (B L : Nat → Int32) (u : Int32) (z : Bool) (e : Int32) (a : Nat) : Bool := !(sx (B a) u z) && decide (L a ≤ 0) && decide (¬ e = -1)
theorem sC_a {B L : Nat → Int32} {u e : Int32} {z : Bool} {a : Nat} (h : sx (B a) u z = true) : sC B L u z e a = false := by
  unfold sC; rw [h]; rfl
theorem sC_b {B L : Nat → Int32} {u e : Int32} {z : Bool} {a : Nat} (h : sx (B a) u z = false) (h2 : ¬ L a ≤ 0) : sC B L u z e a = false := by
  unfold sC; rw [h, decide_eq_false h2]; rfl
theorem sC_c {B L : Nat → Int32} {u e : Int32} {z : Bool} {a : Nat} (h3 : e = -1) : sC B L u z e a = false := by
  unfold sC; rw [decide_eq_false (p := ¬ e = -1) (fun w => w h3), Bool.and_false]
theorem sC_d {B L : Nat → Int32} {u e : Int32} {z : Bool} {a : Nat} (h : sx (B a) u z = false) (h2 : L a ≤ 0) (h3 : ¬ e = -1) : sC B L u z e a = true := by
  unfold sC; rw [h, decide_eq_true h2, decide_eq_true h3]; rfl
/-- the nights' misses of every set, with one more night (or one less) -/
def cM (M : Nat → Int32) (u : Int32) (z : Bool) (st : Int32) (k : Nat) : Int32 := if sx (nI k) u z = true then M k else M k + st
/-- a checksum's step, and many of them -/
def mix (d x : Int64) : Int64 := d * 31 + x
def dfo (g : Nat → Int64 → Int64) (d : Int64) : Nat → Int64
  | 0 => d
  | n + 1 => g n (dfo g d n)
theorem dfo_cong {f g : Nat → Int64 → Int64} {d : Int64} : ∀ n, (∀ k x, k < n → f k x = g k x) → dfo f d n = dfo g d n
  | 0, _ => rfl
  | n + 1, h => by
    show f n (dfo f d n) = g n (dfo g d n)
    rw [dfo_cong n (fun k x hk => h k x (by omega)), h n _ (by omega)]
/-- loops' ends -/
theorem gd_ge_t {i N : Nat} (hN : N < 2 ^ 31) (hi : i ≤ N) (c : nI N ≤ nI i) : i = N := by
  have h := (nI_leI (a := N) (b := i) hN (by omega)).mp c
  omega
theorem gd_ge_f {i N : Nat} (hi : i ≤ N) (c : ¬ nI N ≤ nI i) : i < N := by
  rcases Nat.lt_or_ge i N with h | h
  · exact h
  · rw [show i = N by omega] at c
    exact absurd (Int32.le_refl _) c
def pw (tc : Nat) : Nat := 2 ^ tc
theorem pw_in {tc : Nat} (h : tc ≤ 8) : 1 ≤ pw tc ∧ pw tc ≤ 256 := by
  have h1 : pw tc ≤ 2 ^ 8 := Nat.pow_le_pow_right (by decide) h
  have h2 : 0 < pw tc := Nat.pow_pos (by decide)
  omega
theorem all_eq {tc : Nat} (h : tc ≤ 8) : ((1 : Int32) <<< (nI tc &&& 31)) - 1 = nI (pw tc - 1) := by
  have k : ∀ t, t < 9 → ((1 : Int32) <<< (nI t &&& 31)) - 1 = nI (2 ^ t - 1) := by decide +kernel
  exact k tc (by omega)
theorem gd_gt_t {i tc : Nat} (ht : tc ≤ 8) (hi : i ≤ pw tc) (c : nI (pw tc - 1) < nI i) : i = pw tc := by
  have h := pw_in ht
  have h2 := (nI_ltI (a := pw tc - 1) (b := i) (by omega) (by omega)).mp c
  omega
theorem gd_gt_f {i tc : Nat} (ht : tc ≤ 8) (hi : i ≤ pw tc) (c : ¬ nI (pw tc - 1) < nI i) : i < pw tc := by
  have h := pw_in ht
  rcases Nat.lt_or_ge i (pw tc) with z | z
  · exact z
  · exact absurd (nI_lt (a := pw tc - 1) (b := i) (by omega) (by omega)) c
theorem and255 {k : Nat} (h : k < 256) : nI k &&& 255 = nI k := by
  have q : ∀ t, t < 256 → nI t &&& 255 = nI t := by decide +kernel
  exact q k h
theorem gd_b_t {i tc : Nat} (ht : tc ≤ 8) (hi : i ≤ pw tc - 1) (c : nI (pw tc - 1) < nI (i + 1)) : i = pw tc - 1 := by
  have h := pw_in ht
  have h2 := (nI_ltI (a := pw tc - 1) (b := i + 1) (by omega) (by omega)).mp c
  omega
theorem gd_b_f {i tc : Nat} (ht : tc ≤ 8) (hi : i ≤ pw tc - 1) (c : ¬ nI (pw tc - 1) < nI (i + 1)) : i < pw tc - 1 := by
  have h := pw_in ht
  rcases Nat.lt_or_ge i (pw tc - 1) with z | z
  · exact z
  · exact absurd (nI_lt (a := pw tc - 1) (b := i + 1) (by omega) (by omega)) c
theorem ct_sub {p q : Nat → Bool} (h : ∀ k, p k = true → q k = true) : ∀ n, ct p n ≤ ct q n
  | 0 => Nat.le_refl 0
  | n + 1 => by
    have h1 := ct_sub h n
    rw [ct_s, ct_s]
    by_cases hp : p n = true
    · rw [if_pos hp, if_pos (h n hp)]; omega
    · rw [if_neg hp]; omega
theorem mt_le (U : Nat → Int32) (Z : Nat → Bool) (n N : Nat) (u : Int32) : mt U Z n N u ≤ ex U Z n N := ct_sub (fun k h => by
  have h : (decide (¬ nI k &&& u = 0) && zz U Z n k) = true := h
  rw [Bool.and_eq_true] at h
  exact h.2) N
theorem half_le {E m : Nat} (hE : E ≤ 256) (hm : m ≤ E) : (nI E + 1) / 2 ≤ mx (nI m) (nI E - nI m) := by
  rw [nI_1, pk_sub hm, show (2 : Int32) = nI 2 from rfl, pk_div (by omega) (by decide) (by decide)]
  unfold mx
  split
  · rename_i h
    rw [nI_ltI (by omega) (by omega)] at h
    exact nI_le (by omega) (by omega)
  · rename_i h
    rw [nI_ltI (by omega) (by omega)] at h
    exact nI_le (by omega) (by omega)
theorem bn_stop {f : Nat → Int32} {h : Int32} (hf : ∀ k, h ≤ f k) {i : Nat} (hs : (bn f i).2 ≤ h) : ∀ d, bn f (i + d) = bn f i
  | 0 => rfl
  | d + 1 => by
    have ih := bn_stop hf hs d
    show bn f (i + d + 1) = bn f i
    rw [bn_f (by rw [ih]; exact Int32.le_trans hs (hf _)), ih]
/-- what a night of the set k leaves at worst -/
def lf (U : Nat → Int32) (Z : Nat → Bool) (n N k : Nat) : Int32 := mx (nI (mt U Z n N (nI k))) (nI (ex U Z n N) - nI (mt U Z n N (nI k)))
theorem lf_early {U : Nat → Int32} {Z : Nat → Bool} {n N i : Nat} (hN : N ≤ 256) (hs : (bn (lf U Z n N) i).2 ≤ (nI (ex U Z n N) + 1) / 2) (hi : i ≤ N - 1) : (bn (lf U Z n N) i).1 = (bn (lf U Z n N) (N - 1)).1 := by
  have h := bn_stop (f := lf U Z n N) (fun k => half_le (Nat.le_trans (ct_le _ _) hN) (mt_le U Z n N (nI k))) hs (N - 1 - i)
  rw [show i + (N - 1 - i) = N - 1 by omega] at h
  rw [h]
/-- no quotient of whole numbers is a NaN but by 0 -/
theorem mean_ok {x y : Int32} (hy : ¬ y = 0) : vf_n64 (FP.ddiv (FP.i2d x) (FP.i2d y)) := by
  have h : FP.Core.dIsNaN (FP.ddiv (FP.i2d x) (FP.i2d y)) = false := FP.Core.ddiv_out (FP.Core.DFin.notNaN (FP.Core.i2d_fin x)) (FP.Core.i2d_fin y) (fun z => FP.Core.i2d_ne_zero hy ((FP.Core.zero_bits2 _).mp z))
  have h2 : ¬ 9218868437227405312 < (FP.ddiv (FP.i2d x) (FP.i2d y)).toNat % 2 ^ 63 := fun z => by
    have h3 := (FP.Core.isNaN_bits _).mpr z
    rw [h] at h3
    cases h3
  show _ ≤ _
  rw [UInt64.le_iff_toNat_le, UInt64.toNat_and, show (0x7fffffffffffffff : UInt64).toNat = 2 ^ 63 - 1 from rfl, Nat.and_two_pow_sub_one_eq_mod]
  show _ ≤ 9218868437227405312
  omega
/-- the checksum's parts -/
def dhd (a b c d e f g h i j : Int32) : Int64 := mix (mix (mix (mix (mix (mix (mix (mix (mix (mix 1951 a.toInt64) b.toInt64) c.toInt64) d.toInt64) e.toInt64) f.toInt64) g.toInt64) h.toInt64) i.toInt64) j.toInt64
def dTh (a b c d e f : Int32) (x : Int64) : Int64 := mix (mix (mix (mix (mix (mix x a.toInt64) b.toInt64) c.toInt64) d.toInt64) e.toInt64) f.toInt64
theorem dfo_s (g : Nat → Int64 → Int64) (d : Int64) (n : Nat) : g n (dfo g d n) = dfo g d (n + 1) := rfl
theorem shfB_s (f : Nat → Bool) {g i : Nat} (hg : g ≤ i) {x : Bool} (h : x = f (i + 1)) : updB (shf f g i) i x = shf f g (i + 1) := by
  funext j
  by_cases hj : j = i
  · subst hj
    exact (if_pos rfl).trans (h.trans (if_pos ⟨hg, Nat.lt_succ_self j⟩ : shf f g (j + 1) j = f (j + 1)).symm)
  · refine (if_neg hj).trans ?_
    by_cases h2 : g ≤ j ∧ j < i
    · exact (if_pos h2).trans (if_pos (by omega : g ≤ j ∧ j < i + 1)).symm
    · exact (if_neg h2).trans (if_neg (by omega : ¬ (g ≤ j ∧ j < i + 1))).symm
theorem un_s (U : Nat → Int32) (Z : Nat → Bool) (s : Int32) (n : Nat) : un U Z s (n + 1) = un U Z s n + (if (!(sx s (U n) (Z n))) = true then 1 else 0) := rfl
theorem upd_lt {f : Nat → Int32} {k j : Nat} {x : Int32} (h : j < k) : upd f k x j = f j := pk_un (by omega)
theorem updB_lt {f : Nat → Bool} {k j : Nat} {x : Bool} (h : j < k) : updB f k x j = f j := if_neg (by omega)
theorem updB_at {f : Nat → Bool} {k : Nat} {x : Bool} : updB f k x k = x := if_pos rfl
/-- a night more: its misses -/
theorem un_add (U : Nat → Int32) (Z : Nat → Bool) (s : Int32) (n : Nat) (u : Int32) (z : Bool) : un (upd U n u) (updB Z n z) s (n + 1) = un U Z s n + (if (!(sx s u z)) = true then 1 else 0) := by
  rw [un_s, pk_us, updB_at, un_cong (U := upd U n u) (V := U) (Z := updB Z n z) (Y := Z) (fun j hj => upd_lt hj) (fun j hj => updB_lt hj)]
/-- the nights' misses of each set -/
def mis (U : Nat → Int32) (Z : Nat → Bool) (n : Nat) : Nat → Int32 := fun k => nI (un U Z (nI k) n)
theorem mis_add (U : Nat → Int32) (Z : Nat → Bool) (n : Nat) (u : Int32) (z : Bool) {j : Nat} (hj : j < 256) : mrg (cM (mis U Z n) u z 1) (mis U Z n) 256 j = mis (upd U n u) (updB Z n z) (n + 1) j := by
  rw [show mrg (cM (mis U Z n) u z 1) (mis U Z n) 256 j = cM (mis U Z n) u z 1 j from if_pos hj]
  show _ = nI (un (upd U n u) (updB Z n z) (nI j) (n + 1))
  rw [un_add]
  unfold cM
  cases sx (nI j) u z
  · show nI (un U Z (nI j) n) + 1 = nI (un U Z (nI j) n + 1)
    exact nI_1 _
  · rfl
/-- a night less -/
theorem ct_del (p : Nat → Bool) {g : Nat} : ∀ n, g ≤ n → ct p (n + 1) = ct (shf p g n) n + (if p g = true then 1 else 0)
  | 0, h => by
    have h0 : g = 0 := by omega
    subst h0
    rfl
  | n + 1, h => by
    rcases Nat.lt_or_ge g (n + 1) with h1 | h1
    · rw [ct_s p (n + 1), ct_del (g := g) p n (by omega), ct_s (shf p g (n + 1)) n]
      have e1 : shf p g (n + 1) n = p (n + 1) := if_pos (by omega)
      have e2 : ct (shf p g (n + 1)) n = ct (shf p g n) n := ct_cong n (fun k hk => by
        by_cases h2 : g ≤ k
        · exact (if_pos (by omega : g ≤ k ∧ k < n + 1)).trans (if_pos (by omega : g ≤ k ∧ k < n)).symm
        · exact (if_neg (by omega : ¬ (g ≤ k ∧ k < n + 1))).trans (if_neg (by omega : ¬ (g ≤ k ∧ k < n))).symm)
      rw [e1, e2]
      omega
    · have h0 : g = n + 1 := by omega
      subst h0
      rw [ct_s p (n + 1), ct_cong (p := shf p (n + 1) (n + 1)) (q := p) (n + 1) (fun k hk => if_neg (by omega))]
theorem un_del (U : Nat → Int32) (Z : Nat → Bool) (s : Int32) {n g : Nat} (hg : g < n) : un U Z s n = un (shf U g (n - 1)) (shf Z g (n - 1)) s (n - 1) + (if (!(sx s (U g) (Z g))) = true then 1 else 0) := by
  obtain ⟨k, rfl⟩ : ∃ k, n = k + 1 := ⟨n - 1, by omega⟩
  show ct _ (k + 1) = ct _ k + _
  rw [ct_del (g := g) (fun j => !(sx s (U j) (Z j))) k (by omega)]
  congr 1
  refine ct_cong k (fun j hj => ?_)
  by_cases h2 : g ≤ j ∧ j < k
  · show shf (fun j => !(sx s (U j) (Z j))) g k j = !(sx s (shf U g k j) (shf Z g k j))
    rw [show shf (fun j => !(sx s (U j) (Z j))) g k j = !(sx s (U (j + 1)) (Z (j + 1))) from if_pos h2, show shf U g k j = U (j + 1) from if_pos h2, show shf Z g k j = Z (j + 1) from if_pos h2]
  · show shf (fun j => !(sx s (U j) (Z j))) g k j = !(sx s (shf U g k j) (shf Z g k j))
    rw [show shf (fun j => !(sx s (U j) (Z j))) g k j = !(sx s (U j) (Z j)) from if_neg h2, show shf U g k j = U j from if_neg h2, show shf Z g k j = Z j from if_neg h2]
theorem mis_del (U : Nat → Int32) (Z : Nat → Bool) {n g : Nat} (hg : g < n) {j : Nat} (hj : j < 256) : mrg (cM (mis U Z n) (U g) (Z g) (-1)) (mis U Z n) 256 j = mis (shf U g (n - 1)) (shf Z g (n - 1)) (n - 1) j := by
  rw [show mrg (cM (mis U Z n) (U g) (Z g) (-1)) (mis U Z n) 256 j = cM (mis U Z n) (U g) (Z g) (-1) j from if_pos hj]
  show _ = nI (un (shf U g (n - 1)) (shf Z g (n - 1)) (nI j) (n - 1))
  have h := un_del U Z (nI j) hg
  unfold cM
  show (if sx (nI j) (U g) (Z g) = true then nI (un U Z (nI j) n) else nI (un U Z (nI j) n) + -1) = _
  rw [h]
  cases sx (nI j) (U g) (Z g)
  · show nI (un (shf U g (n - 1)) (shf Z g (n - 1)) (nI j) (n - 1) + 1) + -1 = _
    exact pk_m1 _
  · rfl
theorem m1_and (x : Int32) : (-1 : Int32) &&& x = x := by simp
theorem anf_m {p : Nat → Bool} {x0 : Int32} {n : Nat} (h : p n = true) (h2 : anf p x0 n = -1) : nI n = anf p x0 (n + 1) := by
  rw [← anf_t h, h2, m1_and]
theorem rg_in {t n : Nat} (ht : t < n) (hn : n ≤ 40) : rg (nI t) 0 (nI n - 1) = true := by
  unfold rg
  have h1 : ¬ nI n - 1 < nI t := by
    rw [show (1 : Int32) = nI 1 from rfl, pk_sub (by omega), nI_ltI (by omega) (by omega)]
    omega
  rw [decide_eq_true (nI_pos (by omega)), decide_eq_true h1]; rfl
theorem rg_out {v : Int32} {n : Nat} (hn : n ≤ 40) (hv : v < 0 ∨ nI n ≤ v) : rg v 0 (nI n - 1) = false := by
  unfold rg
  rcases hv with h | h
  · rw [decide_eq_false (p := ¬ v < 0) (fun w => w h), Bool.false_and]
  · have h1 : nI n - 1 < v := by
      rw [Int32.lt_iff_toInt_lt, show (1 : Int32) = nI 1 from rfl, pk_sub_toInt (by omega) (by omega)]
      rw [Int32.le_iff_toInt_le, nI_toInt (by omega)] at h
      omega
    rw [decide_eq_false (p := ¬ nI n - 1 < v) (fun w => w h1), Bool.and_false]
theorem rg_bet {k a n : Nat} (h1 : a ≤ k) (h2 : k ≤ n) (hn : n ≤ 256) : rg (nI k) (nI a) (nI n) = true := by
  unfold rg
  rw [decide_eq_true (nI_nlt h1 (by omega)), decide_eq_true (nI_nlt h2 (by omega))]; rfl
theorem rg_off {v a b : Int32} (hv : v < a ∨ b < v) : rg v a b = false := by
  unfold rg
  rcases hv with h | h
  · rw [decide_eq_false (p := ¬ v < a) (fun w => w h), Bool.false_and]
  · rw [decide_eq_false (p := ¬ b < v) (fun w => w h), Bool.and_false]
theorem rg_5 {v : Int32} (h0 : ¬ v < 0) (h5 : v ≤ 5) : rg v 0 5 = true := by
  unfold rg
  rw [decide_eq_true h0, decide_eq_true (Int32.not_lt.mpr h5)]; rfl
theorem gd_s_t {i n : Nat} (hn : n ≤ 40) (hi : i ≤ n - 1) (c : nI n ≤ nI (i + 1)) : i = n - 1 := by
  have h := (nI_leI (a := n) (b := i + 1) (by omega) (by omega)).mp c
  omega
theorem gd_s_f {i n : Nat} (hn : n ≤ 40) (hi : i ≤ n - 1) (c : ¬ nI n ≤ nI (i + 1)) : i < n - 1 := by
  rcases Nat.lt_or_ge (i + 1) n with h | h
  · omega
  · exact absurd (nI_le h (by omega)) c
end PURE
