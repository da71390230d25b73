theorem fb_holes : ∀ (m n : Nat) (f : Nat → Nat), (∀ i, i < n → f i < m) → (∀ i j, i < j → j < n → f i ≠ f j) → n ≤ m := by
  intro m
  induction m with
  | zero =>
    intro n f h1 _
    rcases Nat.eq_zero_or_pos n with h | h
    · omega
    · exact absurd (h1 0 h) (Nat.not_lt_zero _)
  | succ m ih =>
    intro n f h1 h2
    by_cases hx : ∃ i, i < n ∧ f i = m
    · obtain ⟨a, ha, hfa⟩ := hx
      have hg := ih (n - 1) (fun i => if i < a then f i else f (i + 1)) (by
        intro i hi
        by_cases q : i < a
        · simp only [if_pos q]
          have b1 := h1 i (by omega)
          have b2 := h2 i a q ha
          omega
        · simp only [if_neg q]
          have b1 := h1 (i + 1) (by omega)
          have b2 := h2 a (i + 1) (by omega) (by omega)
          omega) (by
        intro i j hij hj
        by_cases q : i < a
        · by_cases r : j < a
          · simp only [if_pos q, if_pos r]
            exact h2 i j hij (by omega)
          · simp only [if_pos q, if_neg r]
            exact h2 i (j + 1) (by omega) (by omega)
        · have r : ¬ j < a := by omega
          simp only [if_neg q, if_neg r]
          exact h2 (i + 1) (j + 1) (by omega) (by omega))
      omega
    · have hg := ih n f (fun i hi => by
        have b1 := h1 i hi
        have b2 : f i ≠ m := fun e => hx ⟨i, hi, e⟩
        omega) h2
      omega
/-- two of them in one place -/
theorem fb_twice {m n : Nat} {f : Nat → Nat} (h : ∀ i, i < n → f i < m) (hm : m < n) : ∃ i j, i < j ∧ j < n ∧ f i = f j := by
  refine Classical.byContradiction fun hx => ?_
  have := fb_holes m n f h (fun i j hij hj e => hx ⟨i, j, hij, hj, e⟩)
  omega
/-- as many as places, none twice: each place is taken -/
theorem fb_onto {n : Nat} {f : Nat → Nat} (h : ∀ i, i < n → f i < n) (h2 : ∀ i j, i < j → j < n → f i ≠ f j) {y : Nat} (hy : y < n) : ∃ i, i < n ∧ f i = y := by
  refine Classical.byContradiction fun hx => ?_
  have hne : ∀ i, i < n → f i ≠ y := fun i hi e => hx ⟨i, hi, e⟩
  have := fb_holes (n - 1) n (fun i => if f i < y then f i else f i - 1) (by
    intro i hi
    have b1 := h i hi
    have b2 := hne i hi
    by_cases q : f i < y
    · simp only [if_pos q]; omega
    · simp only [if_neg q]; omega) (by
    intro i j hij hj
    have b1 := hne i (by omega)
    have b2 := hne j hj
    have b3 := h2 i j hij hj
    by_cases q : f i < y
    · by_cases r : f j < y
      · simp only [if_pos q, if_pos r]; exact b3
      · simp only [if_pos q, if_neg r]; omega
    · by_cases r : f j < y
      · simp only [if_neg q, if_pos r]; omega
      · simp only [if_neg q, if_neg r]; omega)
  omega

/-! sums bit by bit go through products and maps -/
theorem xs_xor (f g : Nat → Nat) : ∀ n, xs (fun i => f i ^^^ g i) n = xs f n ^^^ xs g n
  | 0 => by
    show (0 : Nat) = 0 ^^^ 0
    exact (Nat.xor_self 0).symm
  | n + 1 => by
    rw [xs_s, xs_s, xs_s, xs_xor f g n, Nat.xor_assoc, Nat.xor_assoc, ← Nat.xor_assoc (xs g n), Nat.xor_comm (xs g n) (f n), Nat.xor_assoc (f n)]
theorem xs_0 {f : Nat → Nat} : ∀ {n : Nat}, (∀ i, i < n → f i = 0) → xs f n = 0
  | 0, _ => rfl
  | n + 1, h => by rw [xs_s, xs_0 (fun i hi => h i (by omega)), h n (by omega)]; rfl
theorem bit_l (a b d : Bool) (v : Nat) : (if (a ^^ b) && d then v else 0) = (if a && d then v else 0) ^^^ (if b && d then v else 0) := by
  cases a <;> cases b <;> cases d <;> simp
theorem bit_r (d a b : Bool) (v : Nat) : (if d && (a ^^ b) then v else 0) = (if d && a then v else 0) ^^^ (if d && b then v else 0) := by
  cases a <;> cases b <;> cases d <;> simp
theorem tm_l (n : Nat) (c : Nat → Nat) (x x' y : Nat) : tm n c (x ^^^ x') y = tm n c x y ^^^ tm n c x' y := by
  unfold tm
  rw [← xs_xor]
  refine xs_cong (fun i _ => ?_)
  unfold tmi
  rw [← xs_xor]
  refine xs_cong (fun j _ => ?_)
  rw [Nat.testBit_xor]
  exact bit_l _ _ _ _
theorem tm_r (n : Nat) (c : Nat → Nat) (x y y' : Nat) : tm n c x (y ^^^ y') = tm n c x y ^^^ tm n c x y' := by
  unfold tm
  rw [← xs_xor]
  refine xs_cong (fun i _ => ?_)
  unfold tmi
  rw [← xs_xor]
  refine xs_cong (fun j _ => ?_)
  rw [Nat.testBit_xor]
  exact bit_r _ _ _ _
theorem im_a (f : Nat → Nat) (x y : Nat) : im f (x ^^^ y) = im f x ^^^ im f y := by
  unfold im
  rw [← xs_xor]
  refine xs_cong (fun i _ => ?_)
  rw [Nat.testBit_xor]
  have := bit_l (x.testBit i) (y.testBit i) true (f i)
  simpa using this
theorem ad_0 {f : Nat → Nat} (hf : ∀ a b, f (a ^^^ b) = f a ^^^ f b) : f 0 = 0 := by
  have h := hf 0 0
  rw [Nat.xor_self, Nat.xor_self] at h
  exact h
theorem xor_0 {a b : Nat} (h : a ^^^ b = 0) : a = b := by
  have h2 : (a ^^^ b) ^^^ b = 0 ^^^ b := by rw [h]
  rw [Nat.xor_assoc, Nat.xor_self, Nat.xor_zero, Nat.zero_xor] at h2
  exact h2
theorem top_bit {n y : Nat} (h1 : 2 ^ n ≤ y) (h2 : y < 2 ^ (n + 1)) : y - 2 ^ n < 2 ^ n ∧ y = (1 <<< n) ^^^ (y - 2 ^ n) := by
  have h3 : y - 2 ^ n < 2 ^ n := by rw [Nat.pow_succ] at h2; omega
  refine ⟨h3, ?_⟩
  apply Nat.eq_of_testBit_eq
  intro j
  have e : y = 2 ^ n * 1 + (y - 2 ^ n) := by omega
  rw [Nat.testBit_xor, shl1_bit]
  conv => lhs; rw [e]
  rw [Nat.testBit_two_pow_mul_add 1 h3]
  by_cases hj : j < n
  · rw [if_pos hj, decide_eq_false (by omega), Bool.false_xor]
  · rw [if_neg hj, Nat.testBit_lt_two_pow (Nat.lt_of_lt_of_le h3 (pw2 (by omega))), Bool.xor_false]
    by_cases hj2 : n = j
    · subst hj2
      rw [Nat.sub_self, decide_eq_true rfl]
      rfl
    · rw [decide_eq_false hj2]
      exact Nat.testBit_lt_two_pow (Nat.lt_of_lt_of_le (by decide : 1 < 2 ^ 1) (pw2 (by omega)))
/-- two sums that agree on single bits agree -/
theorem lin_ext {f g : Nat → Nat} (hf : ∀ a b, f (a ^^^ b) = f a ^^^ f b) (hg : ∀ a b, g (a ^^^ b) = g a ^^^ g b) : ∀ n, (∀ i, i < n → f (1 <<< i) = g (1 <<< i)) → ∀ y, y < 2 ^ n → f y = g y
  | 0, _, y, hy => by
    have : y = 0 := by omega
    rw [this, ad_0 hf, ad_0 hg]
  | n + 1, h, y, hy => by
    rcases Nat.lt_or_ge y (2 ^ n) with q | q
    · exact lin_ext hf hg n (fun i hi => h i (by omega)) y q
    · obtain ⟨h3, e⟩ := top_bit q hy
      rw [e, hf, hg, h n (by omega), lin_ext hf hg n (fun i hi => h i (by omega)) _ h3]
theorem div_ne {n : Nat} {c : Nat → Nat} (h : lbr n c = none) {x y : Nat} (hx0 : x ≠ 0) (hx : x < 2 ^ n) (hy0 : y ≠ 0) (hy : y < 2 ^ n) : tm n c x y ≠ 0 := by
  have h1 := fl_none.mp h x (by omega) (by omega)
  have h2 : lpr n c x = none := by
    cases e : lpr n c x with
    | none => rfl
    | some k => rw [e] at h1; cases h1
  have h3 := fl_none.mp h2 y (by omega) (by omega)
  simpa using h3
theorem div_r {n : Nat} {c : Nat → Nat} (h : lbr n c = none) {x y y' : Nat} (hx0 : x ≠ 0) (hx : x < 2 ^ n) (hy : y < 2 ^ n) (hy' : y' < 2 ^ n) (e : tm n c x y = tm n c x y') : y = y' := by
  refine Classical.byContradiction fun hne => div_ne h hx0 hx (y := y ^^^ y') (fun z => hne (xor_0 z)) (Nat.xor_lt_two_pow hy hy') ?_
  rw [tm_r, e, Nat.xor_self]
theorem div_l {n : Nat} {c : Nat → Nat} (h : lbr n c = none) {x y y' : Nat} (hx0 : x ≠ 0) (hx : x < 2 ^ n) (hy : y < 2 ^ n) (hy' : y' < 2 ^ n) (e : tm n c y x = tm n c y' x) : y = y' := by
  refine Classical.byContradiction fun hne => div_ne h (x := y ^^^ y') (y := x) (fun z => hne (xor_0 z)) (Nat.xor_lt_two_pow hy hy') hx0 hx ?_
  rw [tm_l, e, Nat.xor_self]
theorem cnt_one {p : Nat → Bool} {k : Nat} : ∀ {n : Nat}, k < n → p k = true → (∀ j, j < n → p j = true → j = k) → cnt p n = 1
  | 0, h, _, _ => absurd h (by omega)
  | n + 1, h, hp, hu => by
    rcases Nat.lt_succ_iff_lt_or_eq.mp h with q | q
    · have hn : p n = false := by
        cases e : p n with
        | false => rfl
        | true => have := hu n (by omega) e; omega
      rw [cnt_n hn, cnt_one q hp (fun j hj => hu j (by omega))]
    · subst q
      rw [cnt_y hp, cnt_0]
      intro j hj
      cases e : p j with
      | false => rfl
      | true => have := hu j (by omega) e; omega
theorem uq_of {p : Nat → Bool} {n k : Nat} (hk : k < n) (hp : p k = true) (hu : ∀ j, j < n → p j = true → j = k) : uq p n = some k := by
  unfold uq
  rw [if_pos (cnt_one hk hp hu)]
  exact fl_at (Nat.zero_le k) (by omega) hp (fun j _ hj => by
    cases e : p j with
    | false => rfl
    | true => have := hu j (by omega) e; omega)
theorem slp_iff {n : Nat} {c : Nat → Nat} {x z y : Nat} {L : Bool} : slp n c x z L y = true ↔ (if L then tm n c x y else tm n c y x) = z := beq_iff_eq
/-- in a world that divides there is just one -/
theorem div_slv {n : Nat} {c : Nat → Nat} (h : lbr n c = none) (hcb : CB n c) {x z : Nat} (hx0 : x ≠ 0) (hx : x < 2 ^ n) (hz : z < 2 ^ n) (L : Bool) : ∃ g, slv n c x z L = some g ∧ g < 2 ^ n ∧ (if L then tm n c x g else tm n c g x) = z := by
  obtain ⟨g, hg, he⟩ : ∃ g, g < 2 ^ n ∧ (if L then tm n c x g else tm n c g x) = z := by
    refine fb_onto (n := 2 ^ n) (f := fun g => if L then tm n c x g else tm n c g x) (fun i hi => ?_) (fun i j hij hj => ?_) hz
    · cases L
      · exact tm_lt hcb _ _
      · exact tm_lt hcb _ _
    · cases L
      · exact fun e => absurd (div_l h hx0 hx (Nat.lt_trans hij hj) hj e) (by omega)
      · exact fun e => absurd (div_r h hx0 hx (Nat.lt_trans hij hj) hj e) (by omega)
  refine ⟨g, uq_of hg (slp_iff.mpr he) (fun j hj hp => ?_), hg, he⟩
  have hp := slp_iff.mp hp
  cases L
  · exact div_l h hx0 hx hj hg (hp.trans he.symm)
  · exact div_r h hx0 hx hj hg (hp.trans he.symm)
theorem oI_get {o : Option Nat} (h : ∃ g, o = some g) : oI o = nI (o.getD 0) := by
  obtain ⟨g, rfl⟩ := h
  rfl
def gvn (n : Nat) (c : Nat → Nat) (x z : Nat) : Nat := (slv n c x z true).getD 0
def unw (n : Nat) (c : Nat → Nat) (k : Nat) : Nat := (slv n c 1 (1 <<< k) false).getD 0
theorem gvn_ok {n : Nat} {c : Nat → Nat} (h : lbr n c = none) (hcb : CB n c) {x z : Nat} (hx0 : x ≠ 0) (hx : x < 2 ^ n) (hz : z < 2 ^ n) : gvn n c x z < 2 ^ n ∧ tm n c x (gvn n c x z) = z := by
  obtain ⟨g, e, h1, h2⟩ := div_slv h hcb hx0 hx hz true
  unfold gvn
  rw [e]
  exact ⟨h1, h2⟩
theorem unw_ok {n : Nat} {c : Nat → Nat} (h : lbr n c = none) (hcb : CB n c) (hn : 1 ≤ n) {k : Nat} (hk : k < n) : unw n c k < 2 ^ n ∧ tm n c (unw n c k) 1 = 1 <<< k := by
  obtain ⟨g, e, h1, h2⟩ := div_slv h hcb (x := 1) (by decide) (Nat.lt_of_lt_of_le (by decide : 1 < 2 ^ 1) (pw2 hn)) (shl1_lt hk) false
  unfold unw
  rw [e]
  exact ⟨h1, h2⟩
def tcv (n : Nat) (cb fa u : Nat → Nat) (o q : Nat) : Nat := tm n cb (im fa (u q)) o
def agB (n : Nat) (ca cb fa fc : Nat → Nat) (J G : Nat) : Bool := al (fun i => tm n cb (fa i) G == im fc (tm n ca (1 <<< i) (1 <<< J))) n
def lvB (n : Nat) (ca cb fa fc : Nat → Nat) : Bool := al (fun j => agB n ca cb fa fc j (gvn n cb (fa 0) (im fc (tm n ca 1 (1 <<< j))))) n
def rrV (C n q : Nat) : Nat := (C >>> (q * n)) &&& (2 ^ n - 1)
theorem im_lt {f : Nat → Nat} {n m x : Nat} (hx : x < 2 ^ n) (hf : ∀ i, i < n → f i < 2 ^ m) : im f x < 2 ^ m := xs_lt (fun i _ => by
  show (if _ then _ else _) < _
  split
  · rename_i hb
    exact hf i (Nat.lt_of_not_le fun hle => by
      rw [Nat.testBit_lt_two_pow (Nat.lt_of_lt_of_le hx (pw2 hle))] at hb
      cases hb)
  · exact Nat.pow_pos (by decide))
theorem im_cong {f f' : Nat → Nat} {n x : Nat} (hx : x < 2 ^ n) (hf : ∀ i, i < n → f i = f' i) : im f x = im f' x := xs_cong (fun i _ => by
  cases hb : x.testBit i with
  | false => rfl
  | true =>
    show f i = f' i
    exact hf i (Nat.lt_of_not_le fun hle => by
      rw [Nat.testBit_lt_two_pow (Nat.lt_of_lt_of_le hx (pw2 hle))] at hb
      cases hb))
theorem al_cong {p q : Nat → Bool} : ∀ {n : Nat}, (∀ i, i < n → p i = q i) → al p n = al q n
  | 0, _ => rfl
  | n + 1, h => by rw [al_s, al_s, al_cong (fun i hi => h i (by omega)), h n (by omega)]
theorem fitB_cong {f f' : Nat → Nat} {n : Nat} (hf : ∀ i, i < n → f i = f' i) : fitB f n = fitB f' n := by
  refine al_cong (fun x hx => ?_)
  rw [im_cong hx hf]
  congr 1
  refine al_cong (fun j hj => ?_)
  rw [im_cong (Nat.lt_trans hj hx) hf]
theorem fit_0 {f : Nat → Nat} {n : Nat} (h : fitB f n = true) (hn : 1 ≤ n) : f 0 ≠ 0 := by
  intro e
  have h1 : 1 < 2 ^ n := Nat.lt_of_lt_of_le (by decide : 1 < 2 ^ 1) (pw2 hn)
  have h2 := al_iff.mp h 1 h1
  rw [Bool.and_eq_true] at h2
  have h3 := al_iff.mp h2.2 0 (by decide)
  have e0 : im f 0 = 0 := ad_0 (im_a f)
  have e1 : im f 1 = f 0 := by
    unfold im
    rw [xs_s, xs_s, xs_s, xs_s]
    simp [xs, show Nat.testBit 1 1 = false from by decide, show Nat.testBit 1 2 = false from by decide, show Nat.testBit 1 3 = false from by decide]
  rw [e0, e1, e] at h3
  cases h3
theorem fit_f0 {f : Nat → Nat} {n : Nat} (h : fitB f n = true) (hn : 1 ≤ n) : f 0 < 2 ^ n := by
  have h1 : 1 < 2 ^ n := Nat.lt_of_lt_of_le (by decide : 1 < 2 ^ 1) (pw2 hn)
  have e1 : im f 1 = f 0 := by
    unfold im
    rw [xs_s, xs_s, xs_s, xs_s]
    simp [xs, show Nat.testBit 1 1 = false from by decide, show Nat.testBit 1 2 = false from by decide, show Nat.testBit 1 3 = false from by decide]
  rw [← e1]
  exact fit_lt h h1
theorem lvB_cong {n : Nat} {ca cb fa fa' fc fc' : Nat → Nat} (hcb : CB n ca) (hn : 1 ≤ n) (hf : ∀ i, i < n → fa i = fa' i) (hc : ∀ i, i < n → fc i = fc' i) : lvB n ca cb fa fc = lvB n ca cb fa' fc' := by
  refine al_cong (fun j hj => ?_)
  rw [im_cong (tm_lt hcb _ _) hc, hf 0 (by omega)]
  refine al_cong (fun i hi => ?_)
  rw [hf i hi, im_cong (tm_lt hcb _ _) hc]
def cwF (n : Nat) (ca cb : Nat → Nat) (C o : Nat) : Bool := decide (1 ≤ o) && lvB n ca cb (rrV C n) (tcv n cb (rrV C n) (unw n ca) o)
def cwG (n : Nat) (ca cb : Nat → Nat) (C : Nat) : Nat := if fitB (rrV C n) n then cnt (cwF n ca cb C) (2 ^ n) else 0
def cwT (n : Nat) (ca cb : Nat → Nat) : Nat := sm (cwG n ca cb) (2 ^ (n * n))
/-- what countWays leaves in the rows 10 and 11 -/
def wI (n : Nat) (cb : Nat → Nat) (S : Nat → Nat → Nat) : Nat → Nat → Nat → Nat
  | 0 => S
  | m + 1 => va_up (wI n cb S m) 11 (cpy (tcv n cb (S 10) (S 12) (m + 1)) (wI n cb S m 11) n)
def wR (n C : Nat) (S : Nat → Nat → Nat) : Nat → Nat → Nat := va_up S 10 (cpy (rrV C n) (S 10) n)
def wO (n : Nat) (cb : Nat → Nat) (S : Nat → Nat → Nat) : Nat → Nat → Nat → Nat
  | 0 => S
  | C + 1 => if fitB (rrV C n) n then wI n cb (wR n C (wO n cb S C)) (2 ^ n - 1) else wR n C (wO n cb S C)
def wU (n : Nat) (ca : Nat → Nat) (S : Nat → Nat → Nat) : Nat → Nat → Nat := va_up S 12 (cpy (unw n ca) (S 12) n)
theorem wI_o {n : Nat} {cb : Nat → Nat} {S : Nat → Nat → Nat} {i : Nat} (h : i ≠ 11) : ∀ m, wI n cb S m i = S i
  | 0 => rfl
  | m + 1 => by
    show va_up _ 11 _ i = _
    rw [va_up_o h, wI_o h m]
theorem wO_o {n : Nat} {cb : Nat → Nat} {S : Nat → Nat → Nat} {i : Nat} (h : i ≠ 11) (h2 : i ≠ 10) : ∀ C, wO n cb S C i = S i
  | 0 => rfl
  | C + 1 => by
    unfold wO
    split
    · rw [wI_o h]
      unfold wR
      rw [va_up_o h2, wO_o h h2 C]
    · unfold wR
      rw [va_up_o h2, wO_o h h2 C]
def sC_ways (n : Nat → Nat) (c : Nat → Nat → Nat) (a b : Int32) : Int32 := rg 0 3 a (-1) fun k => rg 0 3 b (-1) fun u => if ¬ n k = n u ∨ 3 < n k then -3 else if (lbr (n k) (c k)).isNone = false then -3 else if (lbr (n u) (c u)).isNone = false then -3 else nI (cwT (n k) (c k) (c u))
def nC_ways (S : Nat → Nat → Nat) (a b : Int32) : Nat → Nat → Nat := rg 0 3 a S fun k => rg 0 3 b S fun u => if ¬ cN S k = cN S u ∨ 3 < cN S k then S else if (lbr (cN S k) (cC S k)).isNone = false then S else if (lbr (cN S u) (cC S u)).isNone = false then S else wO (cN S k) (cC S u) (wU (cN S k) (cC S k) S) (2 ^ (cN S k * cN S k))
