/-! what the numbers are: sums bit by bit, counts, the first of its kind -/
def xs (f : Nat → Nat) : Nat → Nat
  | 0 => 0
  | n + 1 => xs f n ^^^ f n
def cnt (p : Nat → Bool) : Nat → Nat
  | 0 => 0
  | n + 1 => cnt p n + (if p n then 1 else 0)
/-- the least number from a on, of r, with p -/
def fl (p : Nat → Bool) : Nat → Nat → Option Nat
  | _, 0 => none
  | a, r + 1 => if p a then some a else fl p (a + 1) r
/-- all numbers from a on, of r, have p -/
def al (p : Nat → Bool) : Nat → Bool
  | 0 => true
  | n + 1 => al p n && p n
theorem xs_s (f : Nat → Nat) (n : Nat) : xs f (n + 1) = xs f n ^^^ f n := rfl
theorem cnt_s (p : Nat → Bool) (n : Nat) : cnt p (n + 1) = cnt p n + (if p n then 1 else 0) := rfl
theorem al_s (p : Nat → Bool) (n : Nat) : al p (n + 1) = (al p n && p n) := rfl
theorem al_iff {p : Nat → Bool} : ∀ {n : Nat}, al p n = true ↔ ∀ k, k < n → p k = true
  | 0 => by simp [al]
  | n + 1 => by
    rw [al_s, Bool.and_eq_true, al_iff]
    constructor
    · intro h k hk
      rcases Nat.lt_succ_iff_lt_or_eq.mp hk with q | q
      · exact h.1 k q
      · rw [q]; exact h.2
    · exact fun h => ⟨fun k hk => h k (by omega), h n (by omega)⟩
theorem fl_some {p : Nat → Bool} : ∀ {r a k : Nat}, fl p a r = some k → a ≤ k ∧ k < a + r ∧ p k = true ∧ ∀ j, a ≤ j → j < k → p j = false
  | 0, a, k, h => by simp [fl] at h
  | r + 1, a, k, h => by
    unfold fl at h
    by_cases q : p a = true
    · rw [if_pos q] at h
      cases h
      exact ⟨Nat.le_refl _, by omega, q, fun j h1 h2 => by omega⟩
    · rw [if_neg q] at h
      obtain ⟨h1, h2, h3, h4⟩ := fl_some h
      refine ⟨by omega, by omega, h3, fun j g1 g2 => ?_⟩
      rcases Nat.lt_or_ge a j with z | z
      · exact h4 j (by omega) g2
      · rw [show j = a by omega]; simpa using q
theorem fl_none {p : Nat → Bool} : ∀ {r a : Nat}, fl p a r = none ↔ ∀ j, a ≤ j → j < a + r → p j = false
  | 0, a => by simp [fl]; intro j h1 h2; omega
  | r + 1, a => by
    unfold fl
    by_cases q : p a = true
    · rw [if_pos q]
      constructor
      · intro h; cases h
      · intro h
        have := h a (Nat.le_refl _) (by omega)
        rw [this] at q; cases q
    · rw [if_neg q, fl_none]
      constructor
      · intro h j h1 h2
        rcases Nat.lt_or_ge a j with z | z
        · exact h j (by omega) (by omega)
        · rw [show j = a by omega]; simpa using q
      · exact fun h j h1 h2 => h j (by omega) (by omega)
theorem fl_go {p : Nat → Bool} {a r : Nat} (h : p a = false) : fl p a (r + 1) = fl p (a + 1) r := by
  show (if p a then some a else fl p (a + 1) r) = _
  rw [h]; rfl
theorem fl_hit {p : Nat → Bool} {a r : Nat} (h : p a = true) : fl p a (r + 1) = some a := by
  show (if p a then some a else fl p (a + 1) r) = _
  rw [h]; rfl
/-- the product in a world of n with the cells c -/
def tmi (n : Nat) (c : Nat → Nat) (x y i : Nat) : Nat := xs (fun j => if x.testBit i && y.testBit j then c (4 * i + j) else 0) n
def tm (n : Nat) (c : Nat → Nat) (x y : Nat) : Nat := xs (tmi n c x y) n
/-- the table t is that of the cells c -/
def tOK (n : Nat) (c t : Nat → Nat) : Prop := ∀ x, x < 2 ^ n → ∀ y, y < 2 ^ n → t (16 * x + y) = tm n c x y
def isW (cI : ClassId) (ad : Nat → Nat) (E : Nat → va_E) (b n : Nat) (c t : Nat → Nat) : Prop :=
  E b = .inr (0, [.int (nI n), .int (nI (2 ^ n)), .ref (ad (b + 1)), .ref (ad (b + 2))]) ∧ E (b + 1) = .inl (cI, 16, .inl (nF c)) ∧ E (b + 2) = .inl (cI, 256, .inl (nF t))
theorem and1_lt (a : Nat) : a &&& 1 < 2 ^ 31 := Nat.lt_of_le_of_lt Nat.and_le_right (by decide)
theorem and1_bit (a : Nat) : a &&& 1 = 1 ↔ a.testBit 0 = true := by
  rw [Nat.and_one_is_mod, Nat.testBit_zero]
  simp
theorem bit1 (x y i j : Nat) : ((x >>> i) &&& (y >>> j)) &&& 1 = 1 ↔ (x.testBit i && y.testBit j) = true := by
  rw [and1_bit, Nat.testBit_and, Nat.testBit_shiftRight, Nat.testBit_shiftRight, Nat.add_zero, Nat.add_zero]
theorem bit1' (x i : Nat) : (x >>> i) &&& 1 = 1 ↔ x.testBit i = true := by
  rw [and1_bit, Nat.testBit_shiftRight, Nat.add_zero]
theorem ci_eq : ∀ i, i < 4 → ∀ j, j < 4 → (i &&& 3) <<< 2 ||| (j &&& 3) = 4 * i + j := by decide
theorem ti_eq : ∀ i, i < 16 → ∀ j, j < 16 → (i &&& 15) <<< 4 ||| (j &&& 15) = 16 * i + j := by decide +kernel
theorem pow4 {n : Nat} (h : n ≤ 4) : 2 ^ n ≤ 16 := Nat.pow_le_pow_right (by decide) h
theorem xs_at {f : Nat → Nat} {n v : Nat} (h : f n = v) : xs f (n + 1) = xs f n ^^^ v := by rw [xs_s, h]
theorem xs_lt {f : Nat → Nat} {m : Nat} : ∀ {n : Nat}, (∀ i, i < n → f i < 2 ^ m) → xs f n < 2 ^ m
  | 0, _ => Nat.pow_pos (by decide)
  | n + 1, h => Nat.xor_lt_two_pow (xs_lt (fun i hi => h i (by omega))) (h n (by omega))
theorem xs_cong {f g : Nat → Nat} : ∀ {n : Nat}, (∀ i, i < n → f i = g i) → xs f n = xs g n
  | 0, _ => rfl
  | n + 1, h => by rw [xs_s, xs_s, xs_cong (fun i hi => h i (by omega)), h n (by omega)]
theorem cnt_cong {p q : Nat → Bool} : ∀ {n : Nat}, (∀ i, i < n → p i = q i) → cnt p n = cnt q n
  | 0, _ => rfl
  | n + 1, h => by rw [cnt_s, cnt_s, cnt_cong (fun i hi => h i (by omega)), h n (by omega)]
theorem cnt_y {p : Nat → Bool} {n : Nat} (h : p n = true) : cnt p (n + 1) = cnt p n + 1 := by rw [cnt_s, if_pos h]
theorem cnt_n {p : Nat → Bool} {n : Nat} (h : p n = false) : cnt p (n + 1) = cnt p n := by rw [cnt_s, h]; rfl
theorem cnt_le (p : Nat → Bool) : ∀ n, cnt p n ≤ n
  | 0 => Nat.le_refl _
  | n + 1 => by
    have := cnt_le p n
    rw [cnt_s]
    split <;> omega
theorem cnt_mono (p : Nat → Bool) (m : Nat) : ∀ n, cnt p m ≤ cnt p (m + n)
  | 0 => Nat.le_refl _
  | n + 1 => by
    have := cnt_mono p m n
    rw [← Nat.add_assoc, cnt_s]
    omega
theorem cnt_up (p : Nat → Bool) {m n : Nat} (h : m ≤ n) : cnt p m ≤ cnt p n := by
  obtain ⟨k, rfl⟩ : ∃ k, n = m + k := ⟨n - m, by omega⟩
  exact cnt_mono p m k
theorem cnt_0 {p : Nat → Bool} : ∀ {n : Nat}, (∀ k, k < n → p k = false) → cnt p n = 0
  | 0, _ => rfl
  | n + 1, h => by rw [cnt_n (h n (by omega)), cnt_0 (fun k hk => h k (by omega))]
theorem fl_at {p : Nat → Bool} : ∀ {r a k : Nat}, a ≤ k → k < a + r → p k = true → (∀ j, a ≤ j → j < k → p j = false) → fl p a r = some k
  | 0, a, k, h1, h2, _, _ => absurd h2 (by omega)
  | r + 1, a, k, h1, h2, h3, h4 => by
    rcases Nat.lt_or_ge a k with q | q
    · rw [fl_go (h4 a (Nat.le_refl _) q)]
      exact fl_at (by omega) (by omega) h3 (fun j g1 g2 => h4 j (by omega) g2)
    · have e : k = a := by omega
      subst e
      exact fl_hit h3
theorem fl_no {p : Nat → Bool} {a r : Nat} (h : ∀ j, a ≤ j → j < a + r → p j = false) : fl p a r = none := fl_none.mpr h
theorem no_s {p : Nat → Bool} {a y : Nat} (h : ∀ j, a ≤ j → j < y → p j = false) (hy : p y = false) : ∀ j, a ≤ j → j < y + 1 → p j = false := fun j h1 h2 => by
  rcases Nat.lt_succ_iff_lt_or_eq.mp h2 with q | q
  · exact h j h1 q
  · rw [q]; exact hy
theorem ya_s {p : Nat → Bool} {y : Nat} (h : ∀ j, j < y → p j = true) (hy : p y = true) : ∀ j, j < y + 1 → p j = true := fun j h2 => by
  rcases Nat.lt_succ_iff_lt_or_eq.mp h2 with q | q
  · exact h j q
  · rw [q]; exact hy
theorem al_no {p : Nat → Bool} {n k : Nat} (hk : k < n) (h : p k = false) : al p n = false := by
  cases e : al p n with
  | false => rfl
  | true => rw [al_iff.mp e k hk] at h; cases h
theorem al_yes {p : Nat → Bool} {n : Nat} (h : ∀ k, k < n → p k = true) : al p n = true := al_iff.mpr h
theorem bT {a b : Nat} (h : a = b) : (a == b) = true := beq_iff_eq.mpr h
theorem bF {a b : Nat} (h : ¬ a = b) : (a == b) = false := by simp [h]
theorem sF {o : Option Nat} (h : o = none) : o.isSome = false := by rw [h]; rfl
theorem sT {o : Option Nat} (h : ¬ o = none) : o.isSome = true := by
  cases o with
  | none => exact absurd rfl h
  | some k => rfl
/-- the only one with p below n -/
def uq (p : Nat → Bool) (n : Nat) : Option Nat := if cnt p n = 1 then fl p 0 n else none
/-- the sum of f below n -/
def sm (f : Nat → Nat) : Nat → Nat
  | 0 => 0
  | n + 1 => sm f n + f n
theorem sm_s (f : Nat → Nat) (n : Nat) : sm f (n + 1) = sm f n + f n := rfl
theorem sm_cong {f g : Nat → Nat} : ∀ {n : Nat}, (∀ i, i < n → f i = g i) → sm f n = sm g n
  | 0, _ => rfl
  | n + 1, h => by rw [sm_s, sm_s, sm_cong (fun i hi => h i (by omega)), h n (by omega)]
/-- all f below n, by or -/
def os (f : Nat → Nat) : Nat → Nat
  | 0 => 0
  | n + 1 => os f n ||| f n
theorem os_s (f : Nat → Nat) (n : Nat) : os f (n + 1) = os f n ||| f n := rfl
theorem os_lt {f : Nat → Nat} {m : Nat} : ∀ {n : Nat}, (∀ i, i < n → f i < 2 ^ m) → os f n < 2 ^ m
  | 0, _ => Nat.pow_pos (by decide)
  | n + 1, h => Nat.or_lt_two_pow (os_lt (fun i hi => h i (by omega))) (h n (by omega))
theorem os_bit {f : Nat → Nat} {k : Nat} : ∀ {n : Nat}, (os f n).testBit k = true ↔ ∃ i, i < n ∧ (f i).testBit k = true
  | 0 => by simp [os]
  | n + 1 => by
    rw [os_s, Nat.testBit_or, Bool.or_eq_true, os_bit]
    constructor
    · rintro (⟨i, h1, h2⟩ | h)
      · exact ⟨i, by omega, h2⟩
      · exact ⟨n, by omega, h⟩
    · rintro ⟨i, h1, h2⟩
      rcases Nat.lt_succ_iff_lt_or_eq.mp h1 with q | q
      · exact Or.inl ⟨i, q, h2⟩
      · subst q; exact Or.inr h2
def CB (n : Nat) (c : Nat → Nat) : Prop := ∀ i, i < n → ∀ j, j < n → c (4 * i + j) < 2 ^ n
theorem tm_lt {n : Nat} {c : Nat → Nat} (h : CB n c) (x y : Nat) : tm n c x y < 2 ^ n := xs_lt (fun i hi => xs_lt (fun j hj => by
  show (if _ then _ else _) < _
  split
  · exact h i hi j hj
  · exact Nat.pow_pos (by decide)))
def lpr (n : Nat) (c : Nat → Nat) (x : Nat) : Option Nat := fl (fun y => tm n c x y == 0) 1 (2 ^ n - 1)
def lbr (n : Nat) (c : Nat → Nat) : Option Nat := fl (fun x => (lpr n c x).isSome) 1 (2 ^ n - 1)
def isU (n : Nat) (c : Nat → Nat) (e : Nat) : Bool := al (fun x => (tm n c e x == x) && (tm n c x e == x)) (2 ^ n)
def unt (n : Nat) (c : Nat → Nat) : Option Nat := fl (isU n c) 0 (2 ^ n)
def slp (n : Nat) (c : Nat → Nat) (x z : Nat) (L : Bool) (y : Nat) : Bool := (if L then tm n c x y else tm n c y x) == z
def slv (n : Nat) (c : Nat → Nat) (x z : Nat) (L : Bool) : Option Nat := uq (slp n c x z L) (2 ^ n)
def comB (n : Nat) (c : Nat → Nat) (x : Nat) : Bool := al (fun j => tm n c x (1 <<< j) == tm n c (1 <<< j) x) n
def iop (n : Nat) (c : Nat → Nat) (p q r : Nat) : Bool := tm n c p (tm n c q r) == tm n c (tm n c p q) r
def asw (n : Nat) (c : Nat → Nat) (x y z w : Nat) : Bool := if w = 0 then iop n c x y z else if w = 1 then iop n c y x z else iop n c y z x
def assB (n : Nat) (c : Nat → Nat) (x w : Nat) : Bool := al (fun i => al (fun j => asw n c x (1 <<< i) (1 <<< j) w) n) n
def jnB (n : Nat) (c : Nat → Nat) (x w : Nat) : Bool := if w = 3 then (comB n c x && (assB n c x 0 && (assB n c x 1 && assB n c x 2))) else assB n c x w
def unl (n : Nat) (c : Nat → Nat) : Nat := sm (fun x => cnt (fun y => !(tm n c x y == tm n c y x)) (2 ^ n)) (2 ^ n)
/-- how many bits: the least r with at most 2 to the r numbers -/
def lgn (m : Nat) : Nat := (fl (fun r => decide (m ≤ 2 ^ r)) 0 5).getD 0
def pcn (x : Nat) : Nat := cnt (fun k => x.testBit k) 16
def rnk (n : Nat) (c : Nat → Nat) (y : Nat) : Nat := lgn (pcn (os (fun x => 1 <<< tm n c x y) (2 ^ n)))
theorem lgn_at {m r : Nat} (h1 : m ≤ 2 ^ r) (h2 : ∀ j, j < r → 2 ^ j < m) (hr : r < 5) : lgn m = r := by
  unfold lgn
  rw [fl_at (Nat.zero_le r) (by omega) (by simpa using h1) (fun j _ hj => by simpa using h2 j hj)]
  rfl
theorem pcn_le {x n : Nat} (h : x < 2 ^ n) (hn : n ≤ 16) : pcn x ≤ n := by
  have h0 : ∀ k, cnt (fun k => x.testBit k) (n + k) = cnt (fun k => x.testBit k) n := by
    intro k
    induction k with
    | zero => rfl
    | succ k ih =>
      rw [← Nat.add_assoc, cnt_n, ih]
      exact Nat.testBit_lt_two_pow (Nat.lt_of_lt_of_le h (Nat.pow_le_pow_right (by decide) (by omega)))
  have := h0 (16 - n)
  rw [show n + (16 - n) = 16 by omega] at this
  show cnt _ 16 ≤ n
  rw [this]
  exact cnt_le _ _
theorem shl1 (k : Nat) : 1 <<< k = 2 ^ k := by rw [Nat.shiftLeft_eq, Nat.one_mul]
theorem shl1_lt {k n : Nat} (h : k < n) : 1 <<< k < 2 ^ n := by rw [shl1]; exact Nat.pow_lt_pow_right (by decide) h
theorem pw2 {a b : Nat} (h : a ≤ b) : 2 ^ a ≤ 2 ^ b := Nat.pow_le_pow_right (by decide) h
/-- a range of ints -/
def rB (lo hi : Nat) (x : Int32) : Bool := decide (nI lo ≤ x ∧ x ≤ nI hi)
theorem nI_toInt' {n : Nat} (h : n < 2 ^ 31) : (nI n).toInt = (n : Int) := nI_toInt h
theorem i_lt {a b : Int32} : a < b ↔ a.toInt < b.toInt := Int32.lt_iff_toInt_lt
theorem i_le {a b : Int32} : a ≤ b ↔ a.toInt ≤ b.toInt := Int32.le_iff_toInt_le
theorem i0 : (0 : Int32).toInt = 0 := by decide
theorem rB_some {lo hi : Nat} {x : Int32} (hl : lo < 2 ^ 31) (hh : hi < 2 ^ 31) (h : rB lo hi x = true) : ∃ k, lo ≤ k ∧ k ≤ hi ∧ x = nI k := by
  obtain ⟨h1, h2⟩ := of_decide_eq_true h
  rw [i_le, nI_toInt' hl] at h1
  rw [i_le, nI_toInt' hh] at h2
  refine ⟨x.toInt.toNat, by omega, by omega, ?_⟩
  apply Int32.toInt_inj.mp
  rw [nI_toInt' (by omega)]
  omega
theorem rB_nI {lo hi k : Nat} (hh : hi < 2 ^ 31) (hl : lo < 2 ^ 31) (hk : k < 2 ^ 31) : rB lo hi (nI k) = decide (lo ≤ k ∧ k ≤ hi) := by
  exact decide_eq_decide.mpr (by rw [nI_leI hl hk, nI_leI hk hh])
theorem rB_0 {N : Nat} {x : Int32} (h0 : 0 < N) (hN : N < 2 ^ 31) : rB 0 (N - 1) x = decide (¬ x < 0 ∧ ¬ nI N ≤ x) := by
  refine decide_eq_decide.mpr ?_
  rw [i_le, i_le, i_lt, i_le, nI_toInt' (by omega), nI_toInt' (by omega), nI_toInt' hN, i0]
  constructor
  · rintro ⟨h1, h2⟩; constructor <;> omega
  · rintro ⟨h1, h2⟩; constructor <;> omega
theorem iN {o : Option Nat} (h : ¬ o = none) : o.isNone = false := by
  cases o with
  | none => exact absurd rfl h
  | some k => rfl
theorem va_up_same {α : Type} {f : Nat → α} {k : Nat} {v : α} (h : f k = v) : va_up f k v = f := by
  funext j
  unfold va_up
  by_cases e : j = k
  · rw [if_pos e, e, h]
  · rw [if_neg e]
theorem va_up_up {α : Type} (f : Nat → α) (k : Nat) (v w : α) : va_up (va_up f k v) k w = va_up f k w := by
  funext j
  unfold va_up
  by_cases e : j = k
  · rw [if_pos e, if_pos e]
  · rw [if_neg e, if_neg e, if_neg e]
theorem va_up_at {α : Type} (f : Nat → α) (k : Nat) (v : α) : va_up f k v k = v := if_pos rfl
theorem va_up_o {α : Type} {f : Nat → α} {k j : Nat} {v : α} (h : j ≠ k) : va_up f k v j = f j := if_neg h
theorem isW.up1 {cI : ClassId} {ad : Nat → Nat} {E : Nat → va_E} {b n : Nat} {c t : Nat → Nat} (h : isW cI ad E b n c t) (c' : Nat → Nat) : isW cI ad (va_up E (b + 1) (.inl (cI, 16, .inl (nF c')))) b n c' t :=
  ⟨by rw [va_up_o (by omega)]; exact h.1, va_up_at _ _ _, by rw [va_up_o (by omega)]; exact h.2.2⟩
theorem isW.up2 {cI : ClassId} {ad : Nat → Nat} {E : Nat → va_E} {b n : Nat} {c t : Nat → Nat} (h : isW cI ad E b n c t) (t' : Nat → Nat) : isW cI ad (va_up E (b + 2) (.inl (cI, 256, .inl (nF t')))) b n c t' :=
  ⟨by rw [va_up_o (by omega)]; exact h.1, by rw [va_up_o (by omega)]; exact h.2.1, va_up_at _ _ _⟩
/-- the table when it is filled up to row x, place y -/
def pf (n : Nat) (c t : Nat → Nat) (x y q : Nat) : Nat := if (q / 16 < x ∧ q % 16 < 2 ^ n) ∨ (q / 16 = x ∧ q % 16 < y) then tm n c (q / 16) (q % 16) else t q
theorem pf_00 (n : Nat) (c t : Nat → Nat) : pf n c t 0 0 = t := by
  funext q
  unfold pf
  rw [if_neg (by omega)]
theorem pf_put {n : Nat} {c t : Nat → Nat} {i j : Nat} (hi : i < 2 ^ n) (hj : j < 2 ^ n) (hn : 2 ^ n ≤ 16) : va_up (pf n c t i j) (16 * i + j) (tm n c i j) = pf n c t i (j + 1) := by
  funext q
  unfold va_up pf
  by_cases e : q = 16 * i + j
  · have h1 : q / 16 = i := by omega
    have h2 : q % 16 = j := by omega
    rw [if_pos e, h1, h2, if_pos (by omega)]
  · rw [if_neg e]
    by_cases h : (q / 16 < i ∧ q % 16 < 2 ^ n) ∨ (q / 16 = i ∧ q % 16 < j)
    · rw [if_pos h, if_pos (by omega)]
    · rw [if_neg h, if_neg (by omega)]
theorem pf_row {n : Nat} {c t : Nat → Nat} {i : Nat} (hn : 2 ^ n ≤ 16) : pf n c t i (2 ^ n) = pf n c t (i + 1) 0 := by
  funext q
  unfold pf
  by_cases h : (q / 16 < i ∧ q % 16 < 2 ^ n) ∨ (q / 16 = i ∧ q % 16 < 2 ^ n)
  · rw [if_pos h, if_pos (by omega)]
  · rw [if_neg h, if_neg (by omega)]
theorem pf_OK {n : Nat} {c t : Nat → Nat} (hn : 2 ^ n ≤ 16) : tOK n c (pf n c t (2 ^ n) 0) := by
  intro x hx y hy
  unfold pf
  have h1 : (16 * x + y) / 16 = x := by omega
  have h2 : (16 * x + y) % 16 = y := by omega
  rw [h1, h2, if_pos (by omega)]
/-- a row when its first k places are copied -/
def cpy (e c : Nat → Nat) (k q : Nat) : Nat := if q < k then e q else c q
theorem cpy_0 (e c : Nat → Nat) : cpy e c 0 = c := by
  funext q
  unfold cpy
  rw [if_neg (by omega)]
theorem cpy_put {e c : Nat → Nat} {k : Nat} : va_up (cpy e c k) k (e k) = cpy e c (k + 1) := by
  funext q
  unfold va_up cpy
  by_cases h : q = k
  · rw [if_pos h, if_pos (by omega), h]
  · rw [if_neg h]
    by_cases h2 : q < k
    · rw [if_pos h2, if_pos (by omega)]
    · rw [if_neg h2, if_neg (by omega)]
theorem tk_0 {cI : ClassId} {ad : Nat → Nat} {E : Nat → va_E} {b n : Nat} {c t : Nat → Nat} {v : va_E} {e : Nat → Nat} (h : isW cI ad E b n c t) : va_up (va_up E b v) (b + 1) (.inl (cI, 16, .inl (nF (cpy e c 0)))) = va_up E b v := va_up_same (by rw [va_up_o (by omega), cpy_0]; exact h.2.1)
theorem tk_W {cI : ClassId} {ad : Nat → Nat} {E : Nat → va_E} {b n K : Nat} {c t : Nat → Nat} (h : isW cI ad E b n c t) (e : Nat → Nat) (i : Nat) : isW cI ad (va_up (va_up E b (.inr (0, [.int (nI K), .int (nI (2 ^ K)), .ref (ad (b + 1)), .ref (ad (b + 2))]))) (b + 1) (.inl (cI, 16, .inl (nF (cpy e c i))))) b K (cpy e c i) t :=
  ⟨by rw [va_up_o (by omega), va_up_at], va_up_at _ _ _, by rw [va_up_o (by omega), va_up_o (by omega)]; exact h.2.2⟩
theorem tk_X {E : Nat → va_E} {b x : Nat} {v w u : va_E} (h : x < b ∨ b + 2 < x) (hx : E x = u) : va_up (va_up E b v) (b + 1) w x = u := by rw [va_up_o (by omega), va_up_o (by omega)]; exact hx
-- the only one
theorem slp_t {n : Nat} {c : Nat → Nat} {x y z : Nat} {L : Bool} (h : L = true) (e : tm n c x y = z) : slp n c x z L y = true := by unfold slp; rw [if_pos h]; exact bT e
theorem slp_f {n : Nat} {c : Nat → Nat} {x y z : Nat} {L : Bool} (h : L = false) (e : tm n c y x = z) : slp n c x z L y = true := by unfold slp; rw [h]; exact bT e
theorem slp_tn {n : Nat} {c : Nat → Nat} {x y z : Nat} {L : Bool} (h : L = true) (e : ¬ tm n c x y = z) : slp n c x z L y = false := by unfold slp; rw [if_pos h]; exact bF e
theorem slp_fn {n : Nat} {c : Nat → Nat} {x y z : Nat} {L : Bool} (h : L = false) (e : ¬ tm n c y x = z) : slp n c x z L y = false := by unfold slp; rw [h]; exact bF e
section SLV
variable {p : Nat → Bool} {fo : Option Nat} {y n : Nat}
theorem slv_hit1 (h : fo = none) (hf : fo = fl p 0 y) (hp : p y = true) : some y = fl p 0 (y + 1) :=
  (fl_at (Nat.zero_le y) (by omega) hp (fun j h1 h2 => fl_none.mp (hf.symm.trans h) j h1 (by omega))).symm
theorem slv_hit2 (h : fo = none) (hc : cnt p y = if fo = none then 0 else 1) (hp : p y = true) : cnt p (y + 1) = if some y = none then 0 else 1 := by
  rw [cnt_y hp, hc, if_pos h, if_neg (by simp)]
theorem fl_snoc_n : ∀ {r a : Nat}, p (a + r) = false → fl p a (r + 1) = fl p a r
  | 0, a, h => by rw [fl_go (by simpa using h)]; rfl
  | r + 1, a, h => by
    by_cases q : p a = true
    · rw [fl_hit q, fl_hit q]
    · have q' : p a = false := by simpa using q
      rw [fl_go q', fl_go q']
      exact fl_snoc_n (by rw [← h]; congr 1; omega)
theorem fl_snoc_s {k : Nat} : ∀ {r a : Nat}, fl p a r = some k → fl p a (r + 1) = some k
  | 0, a, h => by simp [fl] at h
  | r + 1, a, h => by
    by_cases q : p a = true
    · rw [fl_hit q] at h ⊢; exact h
    · have q' : p a = false := by simpa using q
      rw [fl_go q'] at h ⊢
      exact fl_snoc_s h
theorem slv_mis1 (hf : fo = fl p 0 y) (hp : p y = false) : fo = fl p 0 (y + 1) := by rw [fl_snoc_n (by simpa using hp)]; exact hf
theorem slv_mis2 (hc : cnt p y = if fo = none then 0 else 1) (hp : p y = false) : cnt p (y + 1) = if fo = none then 0 else 1 := by rw [cnt_n hp]; exact hc
theorem slv_two (h : ¬ fo = none) (hc : cnt p y = if fo = none then 0 else 1) (hp : p y = true) (hy : y < n) : uq p n = none := by
  have h1 : cnt p (y + 1) = 2 := by rw [cnt_y hp, hc, if_neg h]
  have h2 := cnt_up p (show y + 1 ≤ n from hy)
  unfold uq
  rw [if_neg (by omega)]
theorem slv_end (hf : fo = fl p 0 y) (hc : cnt p y = if fo = none then 0 else 1) (hy : y = n) : uq p n = fo := by
  subst hy
  unfold uq
  by_cases h : fo = none
  · rw [if_pos h] at hc
    rw [if_neg (by omega)]; exact h.symm
  · rw [if_neg h] at hc
    rw [if_pos hc]; exact hf.symm
end SLV
def bc1 (x : Nat) : Nat := x - ((x >>> 1) &&& 1431655765)
def bc2 (x : Nat) : Nat := (bc1 x &&& 858993459) + ((bc1 x >>> 2) &&& 858993459)
def bc3 (x : Nat) : Nat := (bc2 x + (bc2 x >>> 4)) &&& 252645135
def bc4 (x : Nat) : Nat := bc3 x + (bc3 x >>> 8)
def bc5 (x : Nat) : Nat := bc4 x + (bc4 x >>> 16)
theorem and256 (a b : Nat) {r s : Nat} (hr : r < 256) (hs : s < 256) : (256 * a + r) &&& (256 * b + s) = 256 * (a &&& b) + (r &&& s) := by
  have h3 : r &&& s < 256 := Nat.lt_of_le_of_lt Nat.and_le_left hr
  apply Nat.eq_of_testBit_eq
  intro j
  rw [Nat.testBit_and, show 256 = 2 ^ 8 from rfl, Nat.testBit_two_pow_mul_add a hr, Nat.testBit_two_pow_mul_add b hs, Nat.testBit_two_pow_mul_add _ h3]
  by_cases h : j < 8
  · rw [if_pos h, if_pos h, if_pos h, Nat.testBit_and]
  · rw [if_neg h, if_neg h, if_neg h, Nat.testBit_and]
def g2 (y : Nat) : Nat := (y &&& 858993459) + ((y >>> 2) &&& 858993459)
def g3 (y : Nat) : Nat := (y + (y >>> 4)) &&& 252645135
theorem bd1 : ∀ h, h < 256 → (h / 2) &&& 5592405 = (h >>> 1) &&& 1431655765 := by decide +kernel
theorem bd2 : ∀ b, b < 2 → ∀ l, l < 256 → (128 * b + l / 2) &&& 85 = (l >>> 1) &&& 1431655765 := by decide +kernel
theorem bd3 : ∀ h, h < 256 → h &&& 3355443 = h &&& 858993459 := by decide +kernel
theorem bd4 : ∀ h, h < 256 → h &&& 51 = h &&& 858993459 := by decide +kernel
theorem bd5 : ∀ h, h < 256 → (h / 4) &&& 3355443 = (h >>> 2) &&& 858993459 := by decide +kernel
theorem bd6 : ∀ b, b < 4 → ∀ l, l < 256 → (64 * b + l / 4) &&& 51 = (l >>> 2) &&& 858993459 := by decide +kernel
theorem bd7 : ∀ h, h < 256 → bc1 h < 256 ∧ g2 (bc1 h) ≤ 68 ∧ g2 (bc1 h) % 16 ≤ 4 ∧ g3 (g2 (bc1 h)) = pcn h ∧ pcn h ≤ 8 := by decide +kernel
theorem bd8 : ∀ h, h < 69 → (h + h / 16) &&& 986895 = g3 h := by decide +kernel
theorem bd9 : ∀ b, b < 5 → ∀ l, l < 69 → (l + l / 16 + 16 * b) &&& 15 = g3 l := by decide +kernel
theorem bs1 {h l : Nat} (hh : h < 256) (hl : l < 256) : bc1 (256 * h + l) = 256 * bc1 h + bc1 l := by
  have e1 : (256 * h + l) >>> 1 = 256 * (h / 2) + (128 * (h % 2) + l / 2) := by
    rw [Nat.shiftRight_eq_div_pow]; omega
  have e2 : ((256 * h + l) >>> 1) &&& 1431655765 = 256 * ((h >>> 1) &&& 1431655765) + ((l >>> 1) &&& 1431655765) := by
    rw [e1, show 1431655765 = 256 * 5592405 + 85 from rfl, and256 _ _ (by omega) (by decide)]
    rw [bd1 h hh, bd2 (h % 2) (by omega) l hl]
  have h1 : (h >>> 1) &&& 1431655765 ≤ h := Nat.le_trans Nat.and_le_left (by rw [Nat.shiftRight_eq_div_pow]; omega)
  have h2 : (l >>> 1) &&& 1431655765 ≤ l := Nat.le_trans Nat.and_le_left (by rw [Nat.shiftRight_eq_div_pow]; omega)
  unfold bc1
  rw [e2]
  omega
theorem bs2 {u v : Nat} (hu : u < 256) (hv : v < 256) : g2 (256 * u + v) = 256 * g2 u + g2 v := by
  have e1 : (256 * u + v) >>> 2 = 256 * (u / 4) + (64 * (u % 4) + v / 4) := by
    rw [Nat.shiftRight_eq_div_pow]; omega
  have e2 : ((256 * u + v) >>> 2) &&& 858993459 = 256 * ((u >>> 2) &&& 858993459) + ((v >>> 2) &&& 858993459) := by
    rw [e1, show 858993459 = 256 * 3355443 + 51 from rfl, and256 _ _ (by omega) (by decide), bd5 u hu, bd6 (u % 4) (by omega) v hv]
  have e3 : (256 * u + v) &&& 858993459 = 256 * (u &&& 858993459) + (v &&& 858993459) := by
    rw [← bd3 u hu, ← bd4 v hv]
    rw [show 858993459 = 256 * 3355443 + 51 from rfl, and256 _ _ hv (by decide)]
  unfold g2
  rw [e2, e3]
  omega
theorem bs3 {u v : Nat} (hu : u ≤ 68) (hu2 : u % 16 ≤ 4) (hv : v ≤ 68) : g3 (256 * u + v) = 256 * g3 u + g3 v := by
  have e1 : 256 * u + v + (256 * u + v) >>> 4 = 256 * (u + u / 16) + (v + v / 16 + 16 * (u % 16)) := by
    rw [Nat.shiftRight_eq_div_pow]; omega
  show (256 * u + v + (256 * u + v) >>> 4) &&& 252645135 = _
  rw [e1, show 252645135 = 256 * 986895 + 15 from rfl, and256 _ _ (by omega) (by decide), bd8 u (by omega), bd9 (u % 16) (by omega) v (by omega)]
theorem cnt_split (p : Nat → Bool) (m : Nat) : ∀ n, cnt p (m + n) = cnt p m + cnt (fun k => p (m + k)) n
  | 0 => rfl
  | n + 1 => by rw [← Nat.add_assoc, cnt_s, cnt_s, cnt_split p m n, Nat.add_assoc]
theorem pcn_8 {x : Nat} (h : x < 256) : pcn x = cnt (fun k => x.testBit k) 8 := by
  show cnt _ (8 + 8) = _
  rw [cnt_split, cnt_0 (p := fun k => x.testBit (8 + k)), Nat.add_zero]
  intro k hk
  exact Nat.testBit_lt_two_pow (Nat.lt_of_lt_of_le h (Nat.pow_le_pow_right (n := 2) (i := 8) (by decide) (by omega)))
theorem pcn_256 {h l : Nat} (hh : h < 256) (hl : l < 256) : pcn (256 * h + l) = pcn h + pcn l := by
  rw [pcn_8 hh, pcn_8 hl]
  show cnt _ (8 + 8) = _
  rw [cnt_split, Nat.add_comm]
  congr 1
  · refine cnt_cong (fun k hk => ?_)
    rw [show 256 = 2 ^ 8 from rfl, Nat.testBit_two_pow_mul_add h hl, if_neg (by omega)]
    congr 1
    omega
  · refine cnt_cong (fun k hk => ?_)
    rw [show 256 = 2 ^ 8 from rfl, Nat.testBit_two_pow_mul_add h hl, if_pos hk]
theorem bc_ok : ∀ x, x < 65536 → bc5 x &&& 63 = pcn x := by
  intro x hx
  have ex : x = 256 * (x / 256) + x % 256 := by omega
  have hh : x / 256 < 256 := by omega
  have hl : x % 256 < 256 := by omega
  generalize x / 256 = h at ex hh
  generalize x % 256 = l at ex hl
  subst ex
  obtain ⟨a1, a2, a3, a4, a5⟩ := bd7 h hh
  obtain ⟨b1, b2, b3, b4, b5⟩ := bd7 l hl
  have e3 : bc3 (256 * h + l) = 256 * pcn h + pcn l := by
    show g3 (g2 (bc1 (256 * h + l))) = _
    rw [bs1 hh hl, bs2 a1 b1, bs3 a2 a3 b2, a4, b4]
  have e4 : bc4 (256 * h + l) = 256 * pcn h + pcn l + pcn h := by
    unfold bc4
    rw [e3, Nat.shiftRight_eq_div_pow]
    omega
  have e5 : bc5 (256 * h + l) = 256 * pcn h + pcn l + pcn h := by
    unfold bc5
    rw [e4, Nat.shiftRight_eq_div_pow]
    omega
  rw [e5, show 63 = 2 ^ 6 - 1 from rfl, Nat.and_two_pow_sub_one_eq_mod, pcn_256 hh hl]
  omega
theorem shr_le (a k : Nat) : a >>> k ≤ a := by rw [Nat.shiftRight_eq_div_pow]; exact Nat.div_le_self _ _
theorem bc1_le (x : Nat) : bc1 x ≤ x := Nat.sub_le _ _
theorem bc2_le (x : Nat) : bc2 x ≤ 2 * x := by
  have h1 := bc1_le x
  have h2 := @Nat.and_le_left (bc1 x) 858993459
  have h3 := @Nat.and_le_left (bc1 x >>> 2) 858993459
  have h4 := shr_le (bc1 x) 2
  unfold bc2
  omega
theorem bc3_le (x : Nat) : bc3 x ≤ 4 * x := by
  have h1 := bc2_le x
  have h2 := @Nat.and_le_left (bc2 x + (bc2 x >>> 4)) 252645135
  have h4 := shr_le (bc2 x) 4
  unfold bc3
  omega
theorem bc4_le (x : Nat) : bc4 x ≤ 8 * x := by
  have h1 := bc3_le x
  have h4 := shr_le (bc3 x) 8
  unfold bc4
  omega
theorem rk_seen {n : Nat} {c : Nat → Nat} (h : CB n c) (y k : Nat) : os (fun x => 1 <<< tm n c x y) k < 2 ^ 2 ^ n := os_lt (fun i _ => shl1_lt (tm_lt h i y))
theorem p16 {n : Nat} (h : 2 ^ n ≤ 16) : 2 ^ 2 ^ n ≤ 65536 := Nat.le_trans (pw2 h) (by decide)
theorem tmi_y {c : Nat → Nat} {X Y i j : Nat} (h : (X.testBit i && Y.testBit j) = true) : xs (fun j => if X.testBit i && Y.testBit j then c (4 * i + j) else 0) (j + 1) = xs (fun j => if X.testBit i && Y.testBit j then c (4 * i + j) else 0) j ^^^ c (4 * i + j) := xs_at (if_pos h)
theorem tmi_n {c : Nat → Nat} {X Y i j : Nat} (h : ¬ (X.testBit i && Y.testBit j) = true) : xs (fun j => if X.testBit i && Y.testBit j then c (4 * i + j) else 0) (j + 1) = xs (fun j => if X.testBit i && Y.testBit j then c (4 * i + j) else 0) j := by
  have e : xs (fun j => if X.testBit i && Y.testBit j then c (4 * i + j) else 0) (j + 1) = xs (fun j => if X.testBit i && Y.testBit j then c (4 * i + j) else 0) j ^^^ 0 := xs_at (if_neg h)
  rw [e, Nat.xor_zero]
theorem pw_s {m q : Nat} (h : ∀ j, j < q → 2 ^ j < m) (hq : 1 <<< q < m) : ∀ j, j < q + 1 → 2 ^ j < m := fun j hj => by
  rcases Nat.lt_succ_iff_lt_or_eq.mp hj with z | z
  · exact h j z
  · rw [z, ← shl1]; exact hq
