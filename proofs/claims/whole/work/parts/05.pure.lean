/-! what the numbers are: sums bit by bit, counts, the first of its kind -/
def xs (f : Nat → Nat) : Nat → Nat
  | 0 => 0
  | n + 1 => xs f n ^^^ f n
def cnt (p : Nat → Bool) : Nat → Nat
  | 0 => 0
  | n + 1 => cnt p n + (if p n then 1 else 0)
/-- the least number from a on, of r, with p -/
def fl (p : Nat → Bool) : Nat → Nat → Option Nat
  | _, 0 => none
  | a, r + 1 => if p a then some a else fl p (a + 1) r
/-- all numbers from a on, of r, have p -/
def al (p : Nat → Bool) : Nat → Bool
  | 0 => true
  | n + 1 => al p n && p n
theorem xs_s (f : Nat → Nat) (n : Nat) : xs f (n + 1) = xs f n ^^^ f n := rfl
theorem cnt_s (p : Nat → Bool) (n : Nat) : cnt p (n + 1) = cnt p n + (if p n then 1 else 0) := rfl
theorem al_s (p : Nat → Bool) (n : Nat) : al p (n + 1) = (al p n && p n) := rfl
theorem al_iff {p : Nat → Bool} : ∀ {n : Nat}, al p n = true ↔ ∀ k, k < n → p k = true
  | 0 => by simp [al]
  | n + 1 => by
    rw [al_s, Bool.and_eq_true, al_iff]
    constructor
    · intro h k hk
      rcases Nat.lt_succ_iff_lt_or_eq.mp hk with q | q
      · exact h.1 k q
      · rw [q]; exact h.2
    · exact fun h => ⟨fun k hk => h k (by omega), h n (by omega)⟩
theorem fl_some {p : Nat → Bool} : ∀ {r a k : Nat}, fl p a r = some k → a ≤ k ∧ k < a + r ∧ p k = true ∧ ∀ j, a ≤ j → j < k → p j = false
  | 0, a, k, h => by simp [fl] at h
  | r + 1, a, k, h => by
    unfold fl at h
    by_cases q : p a = true
    · rw [if_pos q] at h
      cases h
      exact ⟨Nat.le_refl _, by omega, q, fun j h1 h2 => by omega⟩
    · rw [if_neg q] at h
      obtain ⟨h1, h2, h3, h4⟩ := fl_some h
      refine ⟨by omega, by omega, h3, fun j g1 g2 => ?_⟩
      rcases Nat.lt_or_ge a j with z | z
      · exact h4 j (by omega) g2
      · rw [show j = a by omega]; simpa using q
theorem fl_none {p : Nat → Bool} : ∀ {r a : Nat}, fl p a r = none ↔ ∀ j, a ≤ j → j < a + r → p j = false
  | 0, a => by simp [fl]; intro j h1 h2; omega
  | r + 1, a => by
    unfold fl
    by_cases q : p a = true
    · rw [if_pos q]
      constructor
      · intro h; cases h
      · intro h
        have := h a (Nat.le_refl _) (by omega)
        rw [this] at q; cases q
    · rw [if_neg q, fl_none]
      constructor
      · intro h j h1 h2
        rcases Nat.lt_or_ge a j with z | z
        · exact h j (by omega) (by omega)
        · rw [show j = a by omega]; simpa using q
      · exact fun h j h1 h2 => h j (by omega) (by omega)
theorem fl_go {p : Nat → Bool} {a r : Nat} (h : p a = false) : fl p a (r + 1) = fl p (a + 1) r := by
  show (if p a then some a else fl p (a + 1) r) = _
  rw [h]; rfl
theorem fl_hit {p : Nat → Bool} {a r : Nat} (h : p a = true) : fl p a (r + 1) = some a := by
  show (if p a then some a else fl p (a + 1) r) = _
  rw [h]; rfl
/-- the product in a world of n with the cells c -/
def tmi (n : Nat) (c : Nat → Nat) (x y i : Nat) : Nat := xs (fun j => if x.testBit i && y.testBit j then c (4 * i + j) else 0) n
def tm (n : Nat) (c : Nat → Nat) (x y : Nat) : Nat := xs (tmi n c x y) n
/-- the table t is that of the cells c -/
def tOK (n : Nat) (c t : Nat → Nat) : Prop := ∀ x, x < 2 ^ n → ∀ y, y < 2 ^ n → t (16 * x + y) = tm n c x y
def isW (cI : ClassId) (ad : Nat → Nat) (E : Nat → va_E) (b n : Nat) (c t : Nat → Nat) : Prop :=
  E b = .inr (0, [.int (nI n), .int (nI (2 ^ n)), .ref (ad (b + 1)), .ref (ad (b + 2))]) ∧ E (b + 1) = .inl (cI, 16, .inl (nF c)) ∧ E (b + 2) = .inl (cI, 256, .inl (nF t))
theorem and1_lt (a : Nat) : a &&& 1 < 2 ^ 31 := Nat.lt_of_le_of_lt Nat.and_le_right (by decide)
theorem bit1 (x y i j : Nat) : ((x >>> i) &&& (y >>> j)) &&& 1 = 1 ↔ (x.testBit i && y.testBit j) = true := by
  have h : (((x >>> i) &&& (y >>> j)) &&& 1 = 1) ↔ ((x >>> i) &&& (y >>> j)).testBit 0 = true := by
    rw [Nat.and_one_is_mod, Nat.testBit_zero]; simp
  rw [h, Nat.testBit_and, Nat.testBit_shiftRight, Nat.testBit_shiftRight]
  simp
theorem bit1' (x i : Nat) : (x >>> i) &&& 1 = 1 ↔ x.testBit i = true := by
  have h : ((x >>> i) &&& 1 = 1) ↔ (x >>> i).testBit 0 = true := by
    rw [Nat.and_one_is_mod, Nat.testBit_zero]; simp
  rw [h, Nat.testBit_shiftRight]
  simp
theorem ci_eq : ∀ i, i < 4 → ∀ j, j < 4 → (i &&& 3) <<< 2 ||| (j &&& 3) = 4 * i + j := by decide
theorem ti_eq : ∀ i, i < 16 → ∀ j, j < 16 → (i &&& 15) <<< 4 ||| (j &&& 15) = 16 * i + j := by decide +kernel
theorem pow4 {n : Nat} (h : n ≤ 4) : 2 ^ n ≤ 16 := Nat.pow_le_pow_right (by decide) h
theorem xs_at {f : Nat → Nat} {n v : Nat} (h : f n = v) : xs f (n + 1) = xs f n ^^^ v := by rw [xs_s, h]
theorem xs_lt {f : Nat → Nat} {m : Nat} : ∀ {n : Nat}, (∀ i, i < n → f i < 2 ^ m) → xs f n < 2 ^ m
  | 0, _ => Nat.pow_pos (by decide)
  | n + 1, h => Nat.xor_lt_two_pow (xs_lt (fun i hi => h i (by omega))) (h n (by omega))
theorem xs_cong {f g : Nat → Nat} : ∀ {n : Nat}, (∀ i, i < n → f i = g i) → xs f n = xs g n
  | 0, _ => rfl
  | n + 1, h => by rw [xs_s, xs_s, xs_cong (fun i hi => h i (by omega)), h n (by omega)]
theorem cnt_cong {p q : Nat → Bool} : ∀ {n : Nat}, (∀ i, i < n → p i = q i) → cnt p n = cnt q n
  | 0, _ => rfl
  | n + 1, h => by rw [cnt_s, cnt_s, cnt_cong (fun i hi => h i (by omega)), h n (by omega)]
theorem cnt_y {p : Nat → Bool} {n : Nat} (h : p n = true) : cnt p (n + 1) = cnt p n + 1 := by rw [cnt_s, if_pos h]
theorem cnt_n {p : Nat → Bool} {n : Nat} (h : p n = false) : cnt p (n + 1) = cnt p n := by rw [cnt_s, h]; rfl
theorem cnt_le (p : Nat → Bool) : ∀ n, cnt p n ≤ n
  | 0 => Nat.le_refl _
  | n + 1 => by
    have := cnt_le p n
    rw [cnt_s]
    split <;> omega
theorem cnt_mono (p : Nat → Bool) (m : Nat) : ∀ n, cnt p m ≤ cnt p (m + n)
  | 0 => Nat.le_refl _
  | n + 1 => by
    have := cnt_mono p m n
    rw [← Nat.add_assoc, cnt_s]
    omega
theorem cnt_up (p : Nat → Bool) {m n : Nat} (h : m ≤ n) : cnt p m ≤ cnt p n := by
  obtain ⟨k, rfl⟩ : ∃ k, n = m + k := ⟨n - m, by omega⟩
  exact cnt_mono p m k
theorem cnt_0 {p : Nat → Bool} : ∀ {n : Nat}, (∀ k, k < n → p k = false) → cnt p n = 0
  | 0, _ => rfl
  | n + 1, h => by rw [cnt_n (h n (by omega)), cnt_0 (fun k hk => h k (by omega))]
theorem fl_at {p : Nat → Bool} : ∀ {r a k : Nat}, a ≤ k → k < a + r → p k = true → (∀ j, a ≤ j → j < k → p j = false) → fl p a r = some k
  | 0, a, k, h1, h2, _, _ => absurd h2 (by omega)
  | r + 1, a, k, h1, h2, h3, h4 => by
    rcases Nat.lt_or_ge a k with q | q
    · rw [fl_go (h4 a (Nat.le_refl _) q)]
      exact fl_at (by omega) (by omega) h3 (fun j g1 g2 => h4 j (by omega) g2)
    · have e : k = a := by omega
      subst e
      exact fl_hit h3
theorem fl_no {p : Nat → Bool} {a r : Nat} (h : ∀ j, a ≤ j → j < a + r → p j = false) : fl p a r = none := fl_none.mpr h
theorem no_s {p : Nat → Bool} {a y : Nat} (h : ∀ j, a ≤ j → j < y → p j = false) (hy : p y = false) : ∀ j, a ≤ j → j < y + 1 → p j = false := fun j h1 h2 => by
  rcases Nat.lt_succ_iff_lt_or_eq.mp h2 with q | q
  · exact h j h1 q
  · rw [q]; exact hy
theorem ya_s {p : Nat → Bool} {y : Nat} (h : ∀ j, j < y → p j = true) (hy : p y = true) : ∀ j, j < y + 1 → p j = true := fun j h2 => by
  rcases Nat.lt_succ_iff_lt_or_eq.mp h2 with q | q
  · exact h j q
  · rw [q]; exact hy
theorem al_no {p : Nat → Bool} {n k : Nat} (hk : k < n) (h : p k = false) : al p n = false := by
  cases e : al p n with
  | false => rfl
  | true => rw [al_iff.mp e k hk] at h; cases h
theorem al_yes {p : Nat → Bool} {n : Nat} (h : ∀ k, k < n → p k = true) : al p n = true := al_iff.mpr h
theorem bT {a b : Nat} (h : a = b) : (a == b) = true := beq_iff_eq.mpr h
theorem bF {a b : Nat} (h : ¬ a = b) : (a == b) = false := by simp [h]
theorem sF {o : Option Nat} (h : o = none) : o.isSome = false := by rw [h]; rfl
theorem sT {o : Option Nat} (h : ¬ o = none) : o.isSome = true := by
  cases o with
  | none => exact absurd rfl h
  | some k => rfl
/-- the only one with p below n -/
def uq (p : Nat → Bool) (n : Nat) : Option Nat := if cnt p n = 1 then fl p 0 n else none
/-- the sum of f below n -/
def sm (f : Nat → Nat) : Nat → Nat
  | 0 => 0
  | n + 1 => sm f n + f n
theorem sm_s (f : Nat → Nat) (n : Nat) : sm f (n + 1) = sm f n + f n := rfl
theorem sm_cong {f g : Nat → Nat} : ∀ {n : Nat}, (∀ i, i < n → f i = g i) → sm f n = sm g n
  | 0, _ => rfl
  | n + 1, h => by rw [sm_s, sm_s, sm_cong (fun i hi => h i (by omega)), h n (by omega)]
/-- all f below n, by or -/
def os (f : Nat → Nat) : Nat → Nat
  | 0 => 0
  | n + 1 => os f n ||| f n
theorem os_s (f : Nat → Nat) (n : Nat) : os f (n + 1) = os f n ||| f n := rfl
theorem os_lt {f : Nat → Nat} {m : Nat} : ∀ {n : Nat}, (∀ i, i < n → f i < 2 ^ m) → os f n < 2 ^ m
  | 0, _ => Nat.pow_pos (by decide)
  | n + 1, h => Nat.or_lt_two_pow (os_lt (fun i hi => h i (by omega))) (h n (by omega))
theorem os_bit {f : Nat → Nat} {k : Nat} : ∀ {n : Nat}, (os f n).testBit k = true ↔ ∃ i, i < n ∧ (f i).testBit k = true
  | 0 => by simp [os]
  | n + 1 => by
    rw [os_s, Nat.testBit_or, Bool.or_eq_true, os_bit]
    constructor
    · rintro (⟨i, h1, h2⟩ | h)
      · exact ⟨i, by omega, h2⟩
      · exact ⟨n, by omega, h⟩
    · rintro ⟨i, h1, h2⟩
      rcases Nat.lt_succ_iff_lt_or_eq.mp h1 with q | q
      · exact Or.inl ⟨i, q, h2⟩
      · subst q; exact Or.inr h2
def CB (n : Nat) (c : Nat → Nat) : Prop := ∀ i, i < n → ∀ j, j < n → c (4 * i + j) < 2 ^ n
theorem tm_lt {n : Nat} {c : Nat → Nat} (h : CB n c) (x y : Nat) : tm n c x y < 2 ^ n := xs_lt (fun i hi => xs_lt (fun j hj => by
  show (if _ then _ else _) < _
  split
  · exact h i hi j hj
  · exact Nat.pow_pos (by decide)))
def lpr (n : Nat) (c : Nat → Nat) (x : Nat) : Option Nat := fl (fun y => tm n c x y == 0) 1 (2 ^ n - 1)
def lbr (n : Nat) (c : Nat → Nat) : Option Nat := fl (fun x => (lpr n c x).isSome) 1 (2 ^ n - 1)
def isU (n : Nat) (c : Nat → Nat) (e : Nat) : Bool := al (fun x => (tm n c e x == x) && (tm n c x e == x)) (2 ^ n)
def unt (n : Nat) (c : Nat → Nat) : Option Nat := fl (isU n c) 0 (2 ^ n)
def slp (n : Nat) (c : Nat → Nat) (x z : Nat) (L : Bool) (y : Nat) : Bool := (if L then tm n c x y else tm n c y x) == z
def slv (n : Nat) (c : Nat → Nat) (x z : Nat) (L : Bool) : Option Nat := uq (slp n c x z L) (2 ^ n)
def comB (n : Nat) (c : Nat → Nat) (x : Nat) : Bool := al (fun j => tm n c x (1 <<< j) == tm n c (1 <<< j) x) n
def iop (n : Nat) (c : Nat → Nat) (p q r : Nat) : Bool := tm n c p (tm n c q r) == tm n c (tm n c p q) r
def asw (n : Nat) (c : Nat → Nat) (x y z w : Nat) : Bool := if w = 0 then iop n c x y z else if w = 1 then iop n c y x z else iop n c y z x
def assB (n : Nat) (c : Nat → Nat) (x w : Nat) : Bool := al (fun i => al (fun j => asw n c x (1 <<< i) (1 <<< j) w) n) n
def jnB (n : Nat) (c : Nat → Nat) (x w : Nat) : Bool := if w = 3 then (comB n c x && (assB n c x 0 && (assB n c x 1 && assB n c x 2))) else assB n c x w
def unl (n : Nat) (c : Nat → Nat) : Nat := sm (fun x => cnt (fun y => !(tm n c x y == tm n c y x)) (2 ^ n)) (2 ^ n)
/-- how many bits: the least r with at most 2 to the r numbers -/
def lgn (m : Nat) : Nat := (fl (fun r => decide (m ≤ 2 ^ r)) 0 5).getD 0
def pcn (x : Nat) : Nat := cnt (fun k => x.testBit k) 16
def rnk (n : Nat) (c : Nat → Nat) (y : Nat) : Nat := lgn (pcn (os (fun x => 1 <<< tm n c x y) (2 ^ n)))
theorem lgn_at {m r : Nat} (h1 : m ≤ 2 ^ r) (h2 : ∀ j, j < r → 2 ^ j < m) (hr : r < 5) : lgn m = r := by
  unfold lgn
  rw [fl_at (Nat.zero_le r) (by omega) (by simpa using h1) (fun j _ hj => by simpa using h2 j hj)]
  rfl
theorem pcn_le {x n : Nat} (h : x < 2 ^ n) (hn : n ≤ 16) : pcn x ≤ n := by
  have h0 : ∀ k, cnt (fun k => x.testBit k) (n + k) = cnt (fun k => x.testBit k) n := by
    intro k
    induction k with
    | zero => rfl
    | succ k ih =>
      rw [← Nat.add_assoc, cnt_n, ih]
      exact Nat.testBit_lt_two_pow (Nat.lt_of_lt_of_le h (Nat.pow_le_pow_right (by decide) (by omega)))
  have := h0 (16 - n)
  rw [show n + (16 - n) = 16 by omega] at this
  show cnt _ 16 ≤ n
  rw [this]
  exact cnt_le _ _
theorem shl1 (k : Nat) : 1 <<< k = 2 ^ k := by rw [Nat.shiftLeft_eq, Nat.one_mul]
theorem shl1_lt {k n : Nat} (h : k < n) : 1 <<< k < 2 ^ n := by rw [shl1]; exact Nat.pow_lt_pow_right (by decide) h
theorem pw2 {a b : Nat} (h : a ≤ b) : 2 ^ a ≤ 2 ^ b := Nat.pow_le_pow_right (by decide) h
/-- a range of ints -/
def rB (lo hi : Nat) (x : Int32) : Bool := decide (nI lo ≤ x ∧ x ≤ nI hi)
theorem nI_toInt' {n : Nat} (h : n < 2 ^ 31) : (nI n).toInt = (n : Int) := nI_toInt h
theorem i_lt {a b : Int32} : a < b ↔ a.toInt < b.toInt := Int32.lt_iff_toInt_lt
theorem i_le {a b : Int32} : a ≤ b ↔ a.toInt ≤ b.toInt := Int32.le_iff_toInt_le
theorem i0 : (0 : Int32).toInt = 0 := by decide
theorem rB_some {lo hi : Nat} {x : Int32} (hl : lo < 2 ^ 31) (hh : hi < 2 ^ 31) (h : rB lo hi x = true) : ∃ k, lo ≤ k ∧ k ≤ hi ∧ x = nI k := by
  obtain ⟨h1, h2⟩ := of_decide_eq_true h
  rw [i_le, nI_toInt' hl] at h1
  rw [i_le, nI_toInt' hh] at h2
  refine ⟨x.toInt.toNat, by omega, by omega, ?_⟩
  apply Int32.toInt_inj.mp
  rw [nI_toInt' (by omega)]
  omega
theorem rB_nI {lo hi k : Nat} (hh : hi < 2 ^ 31) (hl : lo < 2 ^ 31) (hk : k < 2 ^ 31) : rB lo hi (nI k) = decide (lo ≤ k ∧ k ≤ hi) := by
  unfold rB
  rw [nI_leI hl hk, nI_leI hk hh]
theorem rB_0 {N : Nat} {x : Int32} (h0 : 0 < N) (hN : N < 2 ^ 31) : rB 0 (N - 1) x = decide (¬ x < 0 ∧ ¬ nI N ≤ x) := by
  unfold rB
  congr 1
  rw [i_le, i_le, i_lt, i_le, nI_toInt' (by omega), nI_toInt' (by omega), nI_toInt' hN, i0]
  apply propext
  constructor
  · rintro ⟨h1, h2⟩; constructor <;> omega
  · rintro ⟨h1, h2⟩; constructor <;> omega
